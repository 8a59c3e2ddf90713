/** Counts what is as due and what is not, and tells the latter. */
final class Check {
    static int passed = 0;
    static int failed = 0;

    private Check() {
    }

    static void same(String what, long got, long due) {
        if (got == due) {
            passed++;
        } else {
            failed++;
            System.out.println(what + " answered " + got + ", due is " + due);
        }
    }

    static void isTrue(String what, boolean is) {
        same(what, is ? 1 : 0, 1);
    }
}
