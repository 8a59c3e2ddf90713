import java.util.function.Supplier;
import java.util.function.ToLongFunction;

/** Each refused call: what it answers, which refusal comes first, and that it changes nothing that can be seen. */
final class RefusalTest {
    private static final int UNKNOWN = -101, OUTSIDE = -102, STATE = -103, FULL = -104;
    private static final int MIN = Integer.MIN_VALUE, MAX = Integer.MAX_VALUE;
    private static final int[] NO_PERSON = {MIN, -1, 3, 8, MAX};
    private static final int[] NO_TALE = {MIN, -1, 4, MAX};
    private static final int[] NO_SIZE = {MIN, -1, 10000, MAX};
    private static final int[] NO_KIND = {MIN, -1, 4, MAX};
    private static final String SIXTEEN = "01,12,23,34,45,56,67,70,02,24,46,60,13,35,57,71";

    private static String valley = "";
    private static Supplier<GrowsByHalf> maker = GrowsByHalf::new;

    private RefusalTest() {
    }

    static void run() {
        Check.sentence("Refusals change nothing");
        in("a new object", GrowsByHalf::new);
        ofNobody();
        in("a valley of one", RefusalTest::one);
        ofOne();
        in("a valley of three", RefusalTest::three);
        textsOfThree();
        peopleOfThree();
        talesOfThree();
        whatItWasOfThree();
        chainsOfThree();
        in("a full valley", RefusalTest::full);
        ofFull();
        in("a valley of thirty chains", RefusalTest::chained);
        ofChained();
        ofAll();
    }

    private static void in(String name, Supplier<GrowsByHalf> made) {
        valley = name;
        maker = made;
    }

    private static GrowsByHalf one() {
        GrowsByHalf x = Texts.valley("01,10", 3);
        x.see(0, 0, 9);
        Texts.write(x, "+");
        return x;
    }

    /** Just tale 0 is seen; an image is kept that is not as it is now. */
    private static GrowsByHalf three() {
        GrowsByHalf x = Texts.valley("01,12,20", 0, 2);
        x.see(1, 1, 40);
        x.knows(1, 0, true);
        x.image();
        x.person(3);
        x.drop(1);
        x.see(0, 2, 10);
        x.knows(0, 1, true);
        Texts.law(x, "h+1");
        Texts.write(x, "hhhhh01");
        return x;
    }

    private static GrowsByHalf full() {
        GrowsByHalf x = Texts.valley(SIXTEEN, 0, 1, 2, 3, 3, 2, 1, 0);
        Texts.law(x, "h+1d-2");
        Texts.ring(x, 8);
        for (int tale = 0; tale < 4; tale++) {
            x.see(tale, 2 * tale, 30 * tale);
        }
        x.image();
        x.knows(7, 0, false);
        x.see(3, 1, 5);
        Texts.write(x, SIXTEEN + ",10");
        return x;
    }

    private static GrowsByHalf chained() {
        GrowsByHalf x = three();
        for (int time = 0; time < 30; time++) {
            x.chain(0, 5, 1, 8, time % 2);
        }
        return x;
    }

    private static void refused(String call, int due, ToLongFunction<GrowsByHalf> calls) {
        GrowsByHalf x = maker.get();
        Check.due(valley + ": " + call, calls.applyAsLong(x), due);
        Check.due(valley + ": " + call + " again", calls.applyAsLong(x), due);
        Check.isTrue(valley + ": " + call + " changes nothing", Portrait.of(x).equals(Portrait.of(maker.get())));
    }

    private static void ofNobody() {
        refused("law()", STATE, x -> x.law());
        refused("week()", STATE, x -> x.week());
        refused("telling(0, 0)", UNKNOWN, x -> x.telling(0, 0));
        refused("telling(0, 2)", UNKNOWN, x -> x.telling(0, 2));
        refused("kind(0)", UNKNOWN, x -> x.kind(0));
        refused("as(0, 0)", UNKNOWN, x -> x.as(0, 0));
        refused("tells(0, 5)", UNKNOWN, x -> x.tells(0, 5));
        refused("knows(0, 1, true)", UNKNOWN, x -> x.knows(0, 1, true));
        refused("see(0, 0, 5)", UNKNOWN, x -> x.see(0, 0, 5));
        refused("size(0, 0)", UNKNOWN, x -> x.size(0, 0));
        refused("from(0, 0)", UNKNOWN, x -> x.from(0, 0));
        refused("firsts(0, 0, 5, 0)", UNKNOWN, x -> x.firsts(0, 0, 5, 0));
        refused("modest(0, 0, 5)", UNKNOWN, x -> x.modest(0, 0, 5));
        refused("one(0, 3, 1, 4)", UNKNOWN, x -> x.one(0, 3, 1, 4));
        refused("ask(0)", UNKNOWN, x -> x.ask(0));
        refused("chain(0, 5, 0, 5, 0)", UNKNOWN, x -> x.chain(0, 5, 0, 5, 0));
        refused("gossip(1, 1, 0)", STATE, x -> x.gossip(1, 1, 0));
        refused("gossip(0, 1, 0)", OUTSIDE, x -> x.gossip(0, 1, 0));
        refused("restore()", STATE, x -> x.restore());
    }

    private static void ofOne() {
        refused("law()", STATE, x -> x.law());
        refused("week()", STATE, x -> x.week());
        refused("knows(0, 0, true)", UNKNOWN, x -> x.knows(0, 0, true));
        refused("knows(0, 1, true)", UNKNOWN, x -> x.knows(0, 1, true));
        refused("one(0, 9, 0, 9)", UNKNOWN, x -> x.one(0, 9, 0, 9));
        refused("firsts(1, 0, 9, 0)", STATE, x -> x.firsts(1, 0, 9, 0));
        refused("modest(1, 0, 9)", STATE, x -> x.modest(1, 0, 9));
        refused("gossip(60, 0, 2)", STATE, x -> x.gossip(60, 0, 2));
        refused("restore()", STATE, x -> x.restore());
    }

    private static void textsOfThree() {
        refused("letters of 127", OUTSIDE, x -> x.letters(127));
        refused("letters of a hole", OUTSIDE, x -> x.letters(0x6800));
        refused("letters, the first fine, then a hole", OUTSIDE, x -> x.letters(0x680068L));
        refused("letters, the first fine, then 127", OUTSIDE, x -> x.letters(0x7F68L));
        refused("letters(-1)", OUTSIDE, x -> x.letters(-1L));
        refused("law() of no law", STATE, x -> x.law());
        refused("week() of no week", STATE, x -> x.week());
        for (int sort : new int[] {MIN, -1, 2, MAX}) {
            refused("fault(" + sort + ")", OUTSIDE, x -> x.fault(sort));
        }
        for (int size : NO_SIZE) {
            refused("grown(" + size + ")", OUTSIDE, x -> x.grown(size));
        }
        for (int telling : new int[] {MIN, -1, 3, 16, MAX}) {
            refused("telling(" + telling + ", 0)", UNKNOWN, x -> x.telling(telling, 0));
            refused("telling(" + telling + ", 2)", UNKNOWN, x -> x.telling(telling, 2));
        }
        for (int what : new int[] {MIN, -1, 2, MAX}) {
            refused("telling(2, " + what + ")", OUTSIDE, x -> x.telling(2, what));
        }
    }

    private static void peopleOfThree() {
        for (int kind : NO_KIND) {
            refused("person(" + kind + ")", OUTSIDE, x -> x.person(kind));
            refused("as(1, " + kind + ")", OUTSIDE, x -> x.as(1, kind));
        }
        for (int none : NO_PERSON) {
            refused("kind(" + none + ")", UNKNOWN, x -> x.kind(none));
            refused("as(" + none + ", 0)", UNKNOWN, x -> x.as(none, 0));
            refused("as(" + none + ", 4)", UNKNOWN, x -> x.as(none, 4));
            refused("tells(" + none + ", 5)", UNKNOWN, x -> x.tells(none, 5));
            refused("tells(" + none + ", -1)", UNKNOWN, x -> x.tells(none, -1));
            refused("knows(" + none + ", 0)", UNKNOWN, x -> x.knows(none, 0, true));
            refused("knows(0, " + none + ")", UNKNOWN, x -> x.knows(0, none, true));
        }
        for (int size : NO_SIZE) {
            refused("tells(1, " + size + ")", OUTSIDE, x -> x.tells(1, size));
        }
        refused("knows(0, 0)", UNKNOWN, x -> x.knows(0, 0, true));
        refused("knows(1, 1, false)", UNKNOWN, x -> x.knows(1, 1, false));
    }

    private static void talesOfThree() {
        for (int none : NO_PERSON) {
            refused("see(0, " + none + ", 5)", UNKNOWN, x -> x.see(0, none, 5));
            refused("see(0, " + none + ", -1)", UNKNOWN, x -> x.see(0, none, -1));
            refused("size(" + none + ", 0)", UNKNOWN, x -> x.size(none, 0));
            refused("from(" + none + ", 0)", UNKNOWN, x -> x.from(none, 0));
            refused("size(" + none + ", 4)", UNKNOWN, x -> x.size(none, 4));
        }
        for (int none : NO_TALE) {
            refused("see(" + none + ", 0, 5)", UNKNOWN, x -> x.see(none, 0, 5));
            refused("see(" + none + ", 0, 10000)", UNKNOWN, x -> x.see(none, 0, 10000));
            refused("drop(" + none + ")", UNKNOWN, x -> x.drop(none));
            refused("size(0, " + none + ")", UNKNOWN, x -> x.size(0, none));
            refused("from(0, " + none + ")", UNKNOWN, x -> x.from(0, none));
        }
        for (int size : NO_SIZE) {
            refused("see(0, 1, " + size + ")", OUTSIDE, x -> x.see(0, 1, size));
        }
    }

    private static void whatItWasOfThree() {
        for (int none : NO_PERSON) {
            refused("firsts(0, " + none + ", -1, 3)", UNKNOWN, x -> x.firsts(0, none, -1, 3));
            refused("firsts(1, " + none + ", 5, 0)", UNKNOWN, x -> x.firsts(1, none, 5, 0));
            refused("modest(0, " + none + ", -1)", UNKNOWN, x -> x.modest(0, none, -1));
            refused("modest(1, " + none + ", 5)", UNKNOWN, x -> x.modest(1, none, 5));
            refused("one(" + none + ", 5, 1, -1)", UNKNOWN, x -> x.one(none, 5, 1, -1));
            refused("one(1, -1, " + none + ", 5)", UNKNOWN, x -> x.one(1, -1, none, 5));
            refused("ask(" + none + ")", UNKNOWN, x -> x.ask(none));
        }
        for (int none : NO_TALE) {
            refused("firsts(" + none + ", 0, 5, 3)", UNKNOWN, x -> x.firsts(none, 0, 5, 3));
            refused("modest(" + none + ", 0, -1)", UNKNOWN, x -> x.modest(none, 0, -1));
        }
        for (int size : NO_SIZE) {
            refused("firsts(0, 1, " + size + ", 0)", OUTSIDE, x -> x.firsts(0, 1, size, 0));
            refused("firsts(1, 1, " + size + ", 0)", OUTSIDE, x -> x.firsts(1, 1, size, 0));
            refused("modest(0, 1, " + size + ")", OUTSIDE, x -> x.modest(0, 1, size));
            refused("modest(1, 1, " + size + ")", OUTSIDE, x -> x.modest(1, 1, size));
            refused("one(0, " + size + ", 1, 5)", OUTSIDE, x -> x.one(0, size, 1, 5));
            refused("one(0, 5, 1, " + size + ")", OUTSIDE, x -> x.one(0, 5, 1, size));
        }
        for (int what : new int[] {MIN, -1, 3, MAX}) {
            refused("firsts(0, 1, 5, " + what + ")", OUTSIDE, x -> x.firsts(0, 1, 5, what));
            refused("firsts(1, 1, 5, " + what + ")", OUTSIDE, x -> x.firsts(1, 1, 5, what));
        }
        for (int tale = 1; tale < 4; tale++) {
            int unseen = tale;
            refused("firsts(" + tale + ", 1, 5, 0)", STATE, x -> x.firsts(unseen, 1, 5, 0));
            refused("modest(" + tale + ", 1, 5)", STATE, x -> x.modest(unseen, 1, 5));
        }
        refused("one(1, 5, 1, 5)", UNKNOWN, x -> x.one(1, 5, 1, 5));
        refused("one(1, -1, 1, 5)", UNKNOWN, x -> x.one(1, -1, 1, 5));
    }

    private static void chainsOfThree() {
        for (int none : NO_PERSON) {
            refused("chain(" + none + ", -1, 0, 5, 2)", UNKNOWN, x -> x.chain(none, -1, 0, 5, 2));
            refused("chain(0, 5, " + none + ", -1, 2)", UNKNOWN, x -> x.chain(0, 5, none, -1, 2));
        }
        for (int size : NO_SIZE) {
            refused("chain(0, " + size + ", 1, 5, 0)", OUTSIDE, x -> x.chain(0, size, 1, 5, 0));
            refused("chain(0, 5, 1, " + size + ", 0)", OUTSIDE, x -> x.chain(0, 5, 1, size, 0));
            refused("chance(1, 5, " + size + ", 5, 0)", OUTSIDE, x -> x.chance(1, 5, size, 5, 0));
            refused("chance(1, 5, 5, " + size + ", 0)", OUTSIDE, x -> x.chance(1, 5, 5, size, 0));
            refused("likeliest(1, 5, " + size + ")", OUTSIDE, x -> x.likeliest(1, 5, size));
        }
        for (int what : new int[] {MIN, -1, 2, MAX}) {
            refused("chain(0, 5, 1, 8, " + what + ")", OUTSIDE, x -> x.chain(0, 5, 1, 8, what));
            refused("chance(1, 5, 5, 5, " + what + ")", OUTSIDE, x -> x.chance(1, 5, 5, 5, what));
        }
        for (int tellers : new int[] {MIN, -1, 0, 10, MAX}) {
            refused("chance(" + tellers + ", 5, 5, 5, 0)", OUTSIDE, x -> x.chance(tellers, 5, 5, 5, 0));
            refused("likeliest(" + tellers + ", 5, 5)", OUTSIDE, x -> x.likeliest(tellers, 5, 5));
        }
        for (int tenths : new int[] {MIN, -1, 11, MAX}) {
            refused("chance(1, " + tenths + ", 5, 5, 0)", OUTSIDE, x -> x.chance(1, tenths, 5, 5, 0));
            refused("likeliest(1, " + tenths + ", 5)", OUTSIDE, x -> x.likeliest(1, tenths, 5));
        }
        for (int times : new int[] {MIN, -1, 0, 61, MAX}) {
            refused("gossip(" + times + ", 1, 0)", OUTSIDE, x -> x.gossip(times, 1, 0));
        }
        refused("gossip(1, -1, 0)", OUTSIDE, x -> x.gossip(1, -1, 0));
        refused("gossip(1, the least, 0)", OUTSIDE, x -> x.gossip(1, MIN, 0));
        refused("gossip(1, 1, -1)", OUTSIDE, x -> x.gossip(1, 1, -1));
        refused("gossip(1, 1, 3)", OUTSIDE, x -> x.gossip(1, 1, 3));
    }

    private static void ofFull() {
        for (int kind = 0; kind < 4; kind++) {
            int one = kind;
            refused("person(" + kind + ")", FULL, x -> x.person(one));
        }
        refused("person(4)", OUTSIDE, x -> x.person(4));
        refused("person(-1)", OUTSIDE, x -> x.person(-1));
        refused("a letter", FULL, x -> x.letters('h'));
        refused("eight letters", FULL, x -> x.letters(0x4141414141414141L));
        refused("letters of 127", OUTSIDE, x -> x.letters(127));
        refused("letters of a hole", OUTSIDE, x -> x.letters(0x4100));
        refused("law()", STATE, x -> x.law());
        refused("week()", STATE, x -> x.week());
        refused("telling(16, 0)", UNKNOWN, x -> x.telling(16, 0));
        refused("kind(8)", UNKNOWN, x -> x.kind(8));
        refused("knows(8, 0)", UNKNOWN, x -> x.knows(8, 0, true));
        refused("knows(0, 8)", UNKNOWN, x -> x.knows(0, 8, true));
        refused("see(4, 7, 5)", UNKNOWN, x -> x.see(4, 7, 5));
        refused("see(3, 8, 5)", UNKNOWN, x -> x.see(3, 8, 5));
        refused("see(3, 7, 10000)", OUTSIDE, x -> x.see(3, 7, 10000));
    }

    private static void ofChained() {
        refused("chain(0, 5, 1, 8, 0)", STATE, x -> x.chain(0, 5, 1, 8, 0));
        refused("chain(0, 5, 0, 5, 1)", STATE, x -> x.chain(0, 5, 0, 5, 1));
        refused("chain(0, 5, 1, 10000, 0)", OUTSIDE, x -> x.chain(0, 5, 1, 10000, 0));
        refused("chain(0, 5, 1, 8, 2)", OUTSIDE, x -> x.chain(0, 5, 1, 8, 2));
        refused("chain(3, 5, 1, 8, 2)", UNKNOWN, x -> x.chain(3, 5, 1, 8, 2));
        refused("chain(0, -1, 3, 8, 0)", UNKNOWN, x -> x.chain(0, -1, 3, 8, 0));
    }

    private static void ofAll() {
        for (int what : new int[] {MIN, -1, 8, MAX}) {
            refused("count(" + what + ")", OUTSIDE, x -> x.count(what));
        }
    }
}
