import java.io.IOException;
import java.lang.reflect.Constructor;
import java.lang.reflect.Field;
import java.lang.reflect.Method;
import java.lang.reflect.Modifier;
import java.nio.file.Files;
import java.nio.file.Path;
import java.util.ArrayList;
import java.util.Arrays;
import java.util.List;
import java.util.TreeSet;

/** The public face, and those rules of ../shared/LANGUAGE.md that can be read off the class and its text. */
final class FaceTest {
    private static final String[] FACE = {
        "int letters(long)", "int blank()", "int fault(int)", "int law()", "int week()", "int grown(int)",
        "int telling(int,int)", "int person(int)", "int kind(int)", "int as(int,int)", "int tells(int,int)",
        "int knows(int,int,boolean)", "int see(int,int,int)", "int drop(int)", "int size(int,int)",
        "int from(int,int)", "int firsts(int,int,int,int)", "int modest(int,int,int)", "int one(int,int,int,int)",
        "int ask(int)", "int chain(int,int,int,int,int)", "long chance(int,int,int,int,int)",
        "int likeliest(int,int,int)", "int gossip(int,int,int)", "int image()", "int restore()", "int count(int)",
        "long digest()"};
    private static final String[] NOT_ALLOWED = {
        "try", "catch", "finally", "synchronized", "assert", "goto", "throw", "lambda", "->", "::", "protected",
        "package ", "Random", "System.out", "System.in", "System.nano", "System.current", "Thread", "Exact(", "@"};

    private FaceTest() {
    }

    static void run(String sourceFile) throws IOException {
        face();
        insideClasses();
        source(Files.readAllLines(Path.of(sourceFile)));
    }

    private static void face() {
        Class<?> face = GrowsByHalf.class;
        List<String> methods = new ArrayList<>();
        TreeSet<String> publicNames = new TreeSet<>();
        for (Method method : face.getDeclaredMethods()) {
            if (Modifier.isPublic(method.getModifiers())) {
                methods.add(described(method));
                publicNames.add(method.getName());
            }
        }
        for (Method method : face.getDeclaredMethods()) {
            if (!Modifier.isPublic(method.getModifiers())) {
                Check.isTrue(method + " is private", Modifier.isPrivate(method.getModifiers()) || method.isSynthetic());
                Check.isTrue(method + " bears no public name", !publicNames.contains(method.getName()));
            }
        }
        Check.isTrue("the methods are those of the document",
            new TreeSet<>(methods).equals(new TreeSet<>(Arrays.asList(FACE))) && methods.size() == FACE.length);
        Check.isTrue("public and final", face.getModifiers() == (Modifier.PUBLIC | Modifier.FINAL));
        Constructor<?>[] constructors = face.getDeclaredConstructors();
        Check.isTrue("one constructor, public, without arguments", constructors.length == 1
            && Modifier.isPublic(constructors[0].getModifiers()) && constructors[0].getParameterCount() == 0);
        int constants = 0;
        for (Field field : face.getDeclaredFields()) {
            constants += Modifier.isPublic(field.getModifiers()) ? 1 : 0;
            Check.isTrue(field + " is of the face or private", Modifier.isPublic(field.getModifiers())
                ? field.getType() == int.class : Modifier.isPrivate(field.getModifiers()));
        }
        Check.same("public constants", constants, 5);
    }

    private static String described(Method method) {
        List<String> types = new ArrayList<>();
        for (Class<?> type : method.getParameterTypes()) {
            types.add(type.getName());
        }
        return method.getReturnType().getName() + " " + method.getName() + "(" + String.join(",", types) + ")";
    }

    private static void insideClasses() {
        List<Class<?>> all = new ArrayList<>(List.of(GrowsByHalf.class));
        all.addAll(Arrays.asList(GrowsByHalf.class.getDeclaredClasses()));
        Check.isTrue("twelve classes at most", all.size() <= 12);
        for (Class<?> one : all) {
            int fields = 0;
            for (Field field : one.getDeclaredFields()) {
                boolean isStatic = Modifier.isStatic(field.getModifiers());
                fields += isStatic ? 0 : 1;
                Check.isTrue(field + ": static ones are final",
                    !isStatic || Modifier.isFinal(field.getModifiers()));
            }
            Check.isTrue(one + " has twenty fields at most", fields <= 20);
            Check.isTrue(one + " is static inside", one == GrowsByHalf.class || Modifier.isStatic(one.getModifiers()));
            for (Method method : one.getDeclaredMethods()) {
                Check.isTrue(method + " takes seven parameters at most", method.getParameterCount() <= 7);
                Check.isTrue(method + " bears no name of the face", one == GrowsByHalf.class || !isOfFace(method));
            }
        }
    }

    private static boolean isOfFace(Method method) {
        for (String signature : FACE) {
            if (signature.contains(" " + method.getName() + "(")) {
                return true;
            }
        }
        return false;
    }

    private static void source(List<String> lines) {
        int methodBegan = -1;
        for (int at = 0; at < lines.size(); at++) {
            String line = lines.get(at);
            String code = line.replaceAll("//.*|^\\s*/?\\*.*", "");
            for (String word : NOT_ALLOWED) {
                Check.isTrue("line " + (at + 1) + " is without " + word, !code.contains(word));
            }
            Check.isTrue("line " + (at + 1) + " imports what is allowed",
                !code.startsWith("import") || code.equals("import java.util.Arrays;"));
            if (code.matches("(    |        )[a-z][^=;]*\\) \\{")) {
                methodBegan = at;
            }
            if (code.matches("(    |        )\\}") && methodBegan >= 0) {
                Check.isTrue("the method in line " + (methodBegan + 1) + " is short", at - methodBegan < 60);
                methodBegan = -1;
            }
        }
    }
}
