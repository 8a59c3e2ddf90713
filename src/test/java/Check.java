/** Counts what is as due and what is not, and tells the latter. */
final class Check {
    static int passed = 0;
    static int failed = 0;

    private static String sentence = "";

    private Check() {
    }

    static void same(String what, long got, long due) {
        if (got == due) {
            passed++;
        } else {
            failed++;
            System.out.println(what + " answered " + got + ", due is " + due);
        }
    }

    static void isTrue(String what, boolean is) {
        same(what, is ? 1 : 0, 1);
    }

    /** The sentence of the document that the following calls of due() are about. */
    static void sentence(String words) {
        sentence = words;
    }

    static void due(String call, long got, long due) {
        same("'" + sentence + "': " + call, got, due);
    }
}
