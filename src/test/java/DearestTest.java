import java.lang.management.ManagementFactory;

/** The dearest calls one behind the other, up to the 512th: they end, stay true, and take no room. */
final class DearestTest {
    private static final String SIXTEEN = "01,12,23,34,45,56,67,70,02,24,46,60,13,35,57,71";

    private DearestTest() {
    }

    static void run() {
        digests();
        chains();
        laws();
        room();
    }

    private static GrowsByHalf full(String law) {
        GrowsByHalf x = Texts.valley(SIXTEEN, 0, 1, 2, 3, 0, 3, 2, 1);
        Texts.law(x, law);
        for (int pair = 0; pair < 64; pair++) {
            x.knows(pair / 8, pair % 8, true);
        }
        for (int tale = 0; tale < 4; tale++) {
            x.see(tale, 2 * tale, 100 * tale + 99);
        }
        return x;
    }

    private static void digests() {
        GrowsByHalf x = full("h+1/2d");
        long first = x.digest();
        boolean alike = true;
        for (int call = 0; call < 200; call++) {
            alike &= x.digest() == first;
        }
        Check.isTrue("200 digests are alike", alike);
        boolean oneAlike = true;
        int ways = x.one(0, 14, 3, 20);
        for (int call = 0; call < 200; call++) {
            oneAlike &= x.one(0, 14, 3, 20) == ways;
        }
        Check.isTrue("200 times one() is alike", oneAlike);
    }

    /** Nobody comes to 9998 by these laws: all that can be met is met. */
    private static void chains() {
        for (String law : new String[] {"h", "h+1", "+7", "d-1", "h-3+1"}) {
            GrowsByHalf x = full(law);
            for (int call = 0; call < 30; call++) {
                Check.same("chain " + call + " by " + law, x.chain(call % 8, 4000 + call, 0, 9998, call % 2),
                    due(law, call));
            }
            Check.same("the 31st by " + law, x.chain(0, 1, 0, 2, 0), GrowsByHalf.STATE);
        }
    }

    private static long due(String law, int call) {
        PlainValley plain = new PlainValley();
        for (int kind : new int[] {0, 1, 2, 3, 0, 3, 2, 1}) {
            plain.person(kind);
        }
        plain.letters(Texts.packed(law, 0));
        plain.law();
        for (int pair = 0; pair < 64; pair++) {
            plain.knows(pair / 8, pair % 8, true);
        }
        return plain.chain(call % 8, 4000 + call, 0, 9998, call % 2);
    }

    private static void laws() {
        GrowsByHalf x = new GrowsByHalf();
        boolean alike = true;
        for (int call = 0; call < 170; call++) {
            alike &= Texts.law(x, "+" + call % 10 + "/2") == 2 && x.grown(9) == (9 + call % 10) / 2;
        }
        Check.isTrue("170 laws", alike);
    }

    /** What the dearest 416 calls take is counted by the machine itself, in bytes; a few are taken by the counting. */
    private static void room() {
        com.sun.management.ThreadMXBean machine =
            (com.sun.management.ThreadMXBean) ManagementFactory.getThreadMXBean();
        long thread = Thread.currentThread().getId();
        GrowsByHalf x = full("h+1");
        long before = machine.getThreadAllocatedBytes(thread);
        for (int call = 0; call < 26; call++) {
            x.letters(0x6868L);
            x.law();
            x.digest();
            x.ask(call % 8);
            x.one(call % 8, 5, (call + 1) % 8, 5);
            x.firsts(call % 4, call % 8, 50, call % 3);
            x.modest(call % 4, call % 8, 50);
            x.chain(0, 5000 + call, 1, 9998, 0);
            x.chance(9, 5, call, call, 0);
            x.likeliest(9, 5, call);
            x.gossip(60, call, 2);
            x.image();
            x.restore();
            x.size(call % 8, call % 4);
            x.fault(call % 2);
            x.blank();
        }
        long taken = machine.getThreadAllocatedBytes(thread) - before;
        Check.isTrue("416 calls take no room, but took " + taken + " bytes", taken < 4096);
    }
}
