import java.io.IOException;
import java.lang.reflect.Method;
import java.lang.reflect.Modifier;
import java.nio.file.Files;
import java.nio.file.Path;
import java.util.TreeSet;
import java.util.regex.Matcher;
import java.util.regex.Pattern;

/** The calls that README.md shows answer as they are told to there, and each call of the face is shown. */
final class ReadmeTest {
    private static final Pattern CALL = Pattern.compile("x\\.(\\w+)\\((.*?)\\); +// (-?\\d+|[A-Z]+)(:? .*)?");

    private final TreeSet<String> shown = new TreeSet<>();
    private GrowsByHalf x;

    private ReadmeTest() {
    }

    static void run(String readme) throws IOException {
        ReadmeTest test = new ReadmeTest();
        boolean isJava = false;
        for (String line : Files.readAllLines(Path.of(readme))) {
            if (line.startsWith("```")) {
                isJava = line.equals("```java");
            } else if (isJava) {
                test.read(line);
            }
        }
        for (Method method : GrowsByHalf.class.getDeclaredMethods()) {
            boolean isOfFace = Modifier.isPublic(method.getModifiers());
            Check.isTrue("README shows " + method.getName(), !isOfFace || test.shown.contains(method.getName()));
        }
    }

    private void read(String line) {
        if (line.equals("GrowsByHalf x = new GrowsByHalf();")) {
            x = new GrowsByHalf();
            return;
        }
        Matcher call = CALL.matcher(line);
        boolean isCall = call.matches();
        Check.isTrue("README has a call that can be tested: " + line, isCall);
        if (isCall) {
            shown.add(call.group(1));
            Check.same("README: " + line, answer(call.group(1), call.group(2)), number(call.group(3)));
        }
    }

    private long answer(String called, String arguments) {
        try {
            String[] words = arguments.isEmpty() ? new String[0] : arguments.split(", ");
            Method method = methodOf(called);
            Object[] values = new Object[words.length];
            for (int at = 0; at < words.length; at++) {
                values[at] = value(method.getParameterTypes()[at], words[at]);
            }
            return ((Number) method.invoke(x, values)).longValue();
        } catch (ReflectiveOperationException e) {
            throw new IllegalStateException(called + " ended by " + e.getCause(), e);
        }
    }

    private static Method methodOf(String called) {
        for (Method method : GrowsByHalf.class.getDeclaredMethods()) {
            if (Modifier.isPublic(method.getModifiers()) && method.getName().equals(called)) {
                return method;
            }
        }
        throw new IllegalStateException("README calls " + called + ", which is not of the face");
    }

    private static Object value(Class<?> type, String word) {
        if (type == boolean.class) {
            return Boolean.valueOf(word);
        }
        return type == long.class ? (Object) Long.decode(word.replace("L", "")) : (Object) Integer.decode(word);
    }

    /** A number, or a constant of the face by its name. */
    private static long number(String word) {
        switch (word) {
            case "NONE": return GrowsByHalf.NONE;
            case "UNKNOWN": return GrowsByHalf.UNKNOWN;
            case "OUTSIDE": return GrowsByHalf.OUTSIDE;
            case "STATE": return GrowsByHalf.STATE;
            case "FULL": return GrowsByHalf.FULL;
            default: return Long.parseLong(word);
        }
    }
}
