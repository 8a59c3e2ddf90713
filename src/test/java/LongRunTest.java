import java.lang.reflect.Method;
import java.util.Arrays;
import java.util.function.IntFunction;

/** Each call of the face, time and again on one object up to its 512th call, on the class and on PlainValley. */
final class LongRunTest {
    private static final int CALLS = 512;

    private final GrowsByHalf valley = new GrowsByHalf();
    private final PlainValley plain = new PlainValley();
    private int done = 0;
    private boolean alike = true;

    private LongRunTest() {
        call("person", 0);
        call("person", 2);
        call("person", 3);
        write("01,12,20");
        call("week");
        call("see", 0, 0, 20);
        call("see", 2, 2, 7);
        call("knows", 0, 1, true);
        call("knows", 1, 2, true);
        call("knows", 2, 0, true);
    }

    static void run() {
        only("letters", at -> row(at % 5 == 4 ? -1L : 0x68L + at % 3));
        only("blank", at -> row());
        only("fault", at -> row(at % 3));
        only("law", at -> row());
        only("week", at -> row());
        only("grown", at -> row(20 * at));
        only("telling", at -> row(at % 5 - 1, at % 3));
        only("person", at -> row(at % 5));
        only("kind", at -> row(at % 5 - 1));
        only("as", at -> row(at % 4, at % 5));
        only("tells", at -> row(at % 4, 20 * at));
        only("knows", at -> row(at % 3, at % 4, at % 5 < 2));
        only("see", at -> row(at % 4, at % 3, 30 * at));
        only("drop", at -> row(at % 5));
        only("size", at -> row(at % 4, at % 5));
        only("from", at -> row(at % 4, at % 5));
        only("firsts", at -> row(at % 3, at % 4, at / 4, at % 3));
        only("modest", at -> row(at % 3, at % 4, at / 4));
        only("one", at -> row(at % 3, at / 5, (at + 1) % 3, at / 7));
        only("ask", at -> row(at % 4));
        only("chain", at -> row(at % 3, at, (at + 1) % 3, at + at / 2, at % 2));
        only("chance", at -> row(1 + at % 9, at % 11, at, at + at / 2, at % 2));
        only("likeliest", at -> row(1 + at % 9, at % 11, at % 200));
        only("gossip", at -> row(1 + at % 60, 1000 * at, at % 3));
        only("image", at -> row());
        only("restore", at -> row());
        only("count", at -> row(at % 9));
        only("digest", at -> row());
        readings();
        images();
    }

    private static void only(String called, IntFunction<Object[]> arguments) {
        LongRunTest test = new LongRunTest();
        for (int at = 0; test.done < CALLS - 1; at++) {
            test.call(called, arguments.apply(at));
        }
        test.call("digest");
        Check.isTrue("512 calls, nearly all of them " + called + "()", test.alike);
    }

    /** A law and a week by turns. */
    private static void readings() {
        LongRunTest test = new LongRunTest();
        for (int at = 0; test.done < CALLS - 20; at++) {
            test.write(at % 3 == 0 ? "h/" + (2 + at % 8) : "+" + at % 10 + "d");
            test.call("law");
            test.call("size", 1, 0);
            test.write(at % 2 == 0 ? "01,12,21" : "21,10,02");
            test.call("week");
            test.call("size", 2, 2);
        }
        test.counts();
        Check.isTrue("512 calls, many of them law() and week()", test.alike);
    }

    private static void images() {
        LongRunTest test = new LongRunTest();
        for (int at = 0; test.done < CALLS - 20; at++) {
            test.call("see", at % 4, at % 3, at);
            test.call("person", at % 4);
            test.call(at % 3 == 0 ? "image" : "restore");
            test.call("knows", at % 3, (at + 1) % 3, at % 2 == 0);
        }
        test.counts();
        Check.isTrue("512 calls, many of them image() and restore()", test.alike);
    }

    private void counts() {
        for (int what = 0; what < 8; what++) {
            call("count", what);
        }
        call("digest");
    }

    private static Object[] row(Object... arguments) {
        return arguments;
    }

    private void write(String text) {
        for (int from = 0; from < text.length(); from += 8) {
            call("letters", Texts.packed(text, from));
        }
    }

    private void call(String called, Object... arguments) {
        done++;
        long got = answer(GrowsByHalf.class, valley, called, arguments);
        long due = answer(PlainValley.class, plain, called, arguments);
        if (got != due && alike) {
            System.out.println("call " + done + ": " + called + Arrays.toString(arguments) + " answered " + got
                + ", due is " + due);
        }
        alike &= got == due;
    }

    private static long answer(Class<?> of, Object on, String called, Object... arguments) {
        try {
            for (Method method : of.getDeclaredMethods()) {
                boolean isAnswer = method.getReturnType() == int.class || method.getReturnType() == long.class;
                if (method.getName().equals(called) && isAnswer) {
                    return ((Number) method.invoke(on, arguments)).longValue();
                }
            }
            throw new IllegalStateException("no call " + called);
        } catch (ReflectiveOperationException e) {
            throw new IllegalStateException(called + " ended by " + e.getCause(), e);
        }
    }
}
