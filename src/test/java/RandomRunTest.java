import java.lang.reflect.Method;
import java.util.ArrayList;
import java.util.Arrays;
import java.util.HashMap;
import java.util.List;
import java.util.Map;
import java.util.Random;

/** Runs of 512 calls, by seeds that are always the same, on the class and on PlainValley. */
final class RandomRunTest {
    private static final int RUNS = 400;
    private static final int CALLS = 512;
    private static final int[] EDGES = {
        -1, -2, 0, 1, 2, 3, 4, 5, 7, 8, 9, 10, 11, 16, 59, 60, 61, 99, 100, 999, 1000, 9998, 9999, 10000,
        -101, -9999, 65536, Integer.MAX_VALUE, Integer.MIN_VALUE};
    /** What is called, and how often, told by how often it stands here. */
    private static final String[] CALLED = (
        "letters letters letters blank fault fault law law week week week grown telling person person kind as as "
        + "tells knows knows knows see see see drop size size size from from from firsts firsts modest modest "
        + "ask ask chain chance chance likeliest gossip gossip image restore count count "
        + "size from modest ask gossip law week see").split(" ");

    private final Random random;
    private final GrowsByHalf valley = new GrowsByHalf();
    private final PlainValley plain = new PlainValley();
    private final List<String> told = new ArrayList<>();
    private final int peopleAtMost;

    private static final Map<String, Method> OF_CLASS = methods(GrowsByHalf.class);
    private static final Map<String, Method> OF_PLAIN = methods(PlainValley.class);

    private RandomRunTest(int seed) {
        random = new Random(seed);
        peopleAtMost = seed % 5 == 0 ? 8 : 2 + random.nextInt(7);
    }

    static void run() {
        for (int seed = 1; seed <= RUNS; seed++) {
            boolean alike = new RandomRunTest(seed).isAlike();
            Check.isTrue("random run " + seed, alike);
        }
    }

    private static Map<String, Method> methods(Class<?> in) {
        Map<String, Method> all = new HashMap<>();
        for (Method method : in.getDeclaredMethods()) {
            boolean ofFace = method.getReturnType() == int.class || method.getReturnType() == long.class;
            if (ofFace && (in == PlainValley.class || java.lang.reflect.Modifier.isPublic(method.getModifiers()))) {
                all.put(method.getName(), method);
            }
        }
        return all;
    }

    private boolean isAlike() {
        // A text on the page takes up to eight calls at once; the last call is the digest.
        while (told.size() < CALLS - 9) {
            boolean alike = isNextAlike();
            if (!alike) {
                System.out.println(String.join("\n", told.subList(Math.max(0, told.size() - 60), told.size())));
                return false;
            }
        }
        return isAlike("digest");
    }

    private boolean isNextAlike() {
        int dear = random.nextInt(1000);
        if (dear < 8) {
            return isAlike("digest");
        }
        if (dear < 28) {
            return isOneAlike();
        }
        String called = CALLED[random.nextInt(CALLED.length)];
        return isAlike(called, argumentsOf(called));
    }

    private boolean isOneAlike() {
        int a = person();
        int b = person();
        if (random.nextInt(3) == 0 || plain.people() < 2) {
            return isAlike("one", a, size(), b, size());
        }
        // What two have of one tale can be of one thing, if the tale was seen not too big.
        int tale = random.nextInt(4);
        return isAlike("one", a, plain.size(a, tale), b, plain.size(b, tale));
    }

    private Object[] argumentsOf(String called) {
        switch (called) {
            case "letters": return row(letters());
            case "fault": return row(some(2));
            case "law": return prepared(random.nextInt(4) > 0 ? lawText() : null);
            case "week": return prepared(random.nextInt(4) > 0 ? weekText() : null);
            case "grown": return row(size());
            case "telling": return row(some(16), some(2));
            case "person": return row(plain.people() < peopleAtMost || peopleAtMost == 8 ? some(4) : 4 + random.nextInt(3));
            case "kind": return row(person());
            case "as": return row(person(), some(4));
            case "tells": return row(person(), size());
            case "knows": return row(person(), person(), random.nextInt(3) > 0);
            case "see": return row(some(4), person(), size());
            case "drop": return row(some(4));
            case "size", "from": return row(person(), some(4));
            case "firsts": return taleAsked(some(3));
            case "modest": return taleAsked(null);
            case "ask": return row(person());
            case "chain": return chain();
            case "chance": return chance();
            case "likeliest": return row(1 + some(9), some(11), random.nextInt(3) == 0 ? size() : random.nextInt(60));
            case "gossip": return row(1 + some(60), seed(), some(3));
            case "count": return row(some(8));
            default: return row();
        }
    }

    private static Object[] row(Object... arguments) {
        return arguments;
    }

    /** The page is emptied and has the text then. */
    private Object[] prepared(String text) {
        if (text != null) {
            isAlike("blank");
            for (int from = 0; from < text.length(); from += 8) {
                isAlike("letters", Texts.packed(text, from));
            }
        }
        return row();
    }

    private Object[] taleAsked(Integer what) {
        int tale = some(4);
        int person = person();
        int has = plain.size(person, tale);
        int size = has >= 0 && random.nextInt(3) > 0 ? has : size();
        return what == null ? row(tale, person, size) : row(tale, person, size, what);
    }

    /** Often what is wanted is met on a walk along those who know one another. */
    private Object[] chain() {
        int from = person();
        int size = size();
        int to = from;
        int wanted = size;
        int walked = random.nextInt(8);
        for (int telling = 0; telling < walked && random.nextInt(12) > 0; telling++) {
            int next = random.nextInt(8);
            if (plain.kind(to) >= 0 && plain.kind(next) >= 0 && next != to) {
                wanted = plain.tells(to, wanted);
                to = next;
            }
        }
        wanted = wanted < 0 ? size() : wanted;
        return row(from, size, to, random.nextInt(8) == 0 ? size() : wanted, some(2));
    }

    private Object[] chance() {
        int tellers = 1 + some(9);
        int first = size();
        int size = first;
        for (int grown = random.nextInt(4); grown > 0; grown--) {
            size = Math.max(0, plain.grown(size));
        }
        return row(tellers, some(11), first, random.nextInt(4) == 0 ? size() : size, some(2));
    }

    /** Below a bound mostly; at times anything. */
    private int some(int bound) {
        return random.nextInt(25) == 0 ? EDGES[random.nextInt(EDGES.length)] : random.nextInt(bound);
    }

    private int person() {
        return some(Math.max(1, plain.people()));
    }

    private int size() {
        switch (random.nextInt(10)) {
            case 0: return EDGES[random.nextInt(EDGES.length)];
            case 1: return random.nextInt(10000);
            case 2, 3: return random.nextInt(1000);
            case 4, 5, 6: return random.nextInt(100);
            default: return random.nextInt(12);
        }
    }

    private int seed() {
        switch (random.nextInt(4)) {
            case 0: return EDGES[random.nextInt(EDGES.length)];
            case 1: return random.nextInt(100);
            default: return random.nextInt(Integer.MAX_VALUE);
        }
    }

    private long letters() {
        switch (random.nextInt(8)) {
            case 0: return random.nextLong();
            case 1: return 0;
            case 2: return 1 + random.nextInt(130);
            case 3: return Texts.packed(weekText(), 0);
            default: return Texts.packed(lawText(), 0);
        }
    }

    private String lawText() {
        StringBuilder text = new StringBuilder();
        int steps = 1 + random.nextInt(random.nextInt(8) == 0 ? 5 : 4);
        for (int step = 0; step < steps; step++) {
            char sign = "hd+-/".charAt(random.nextInt(5));
            text.append(sign);
            if (sign != 'h' && sign != 'd') {
                text.append(random.nextInt(sign == '/' && random.nextInt(8) > 0 ? 3 : 10) + (sign == '/' ? 2 : 0));
            }
        }
        return disturbed(text);
    }

    private String weekText() {
        StringBuilder text = new StringBuilder();
        int tellings = 1 + random.nextInt(random.nextInt(3) == 0 ? 17 : 6);
        int people = Math.max(2, plain.people() + (random.nextInt(4) == 0 ? 1 : 0));
        for (int telling = 0; telling < tellings && text.length() < 46; telling++) {
            int who = random.nextInt(Math.min(8, people));
            int whom = random.nextInt(Math.min(8, people));
            text.append(telling > 0 ? "," : "").append(who).append(who == whom ? (whom + 1) % 8 : whom);
        }
        return disturbed(text);
    }

    private String disturbed(StringBuilder text) {
        if (random.nextInt(8) == 0) {
            text.setCharAt(random.nextInt(text.length()), "hd+-/0189,x ".charAt(random.nextInt(12)));
        }
        if (random.nextInt(12) == 0) {
            text.setLength(text.length() - 1);
        }
        return text.toString();
    }

    private boolean isAlike(String called, Object... arguments) {
        try {
            Number got = (Number) OF_CLASS.get(called).invoke(valley, arguments);
            Number due = (Number) OF_PLAIN.get(called).invoke(plain, arguments);
            told.add(called + Arrays.toString(arguments) + " answered " + got + ", due is " + due);
            return got.longValue() == due.longValue();
        } catch (ReflectiveOperationException e) {
            told.add(called + Arrays.toString(arguments) + " ended by " + e.getCause());
            return false;
        }
    }
}
