/** The sentences of the document that name a boundary of sizes, laws, weeks and the page: each has a test here. */
final class EdgesOfTexts {
    private static final int NONE = -1, UNKNOWN = -101, OUTSIDE = -102, STATE = -103, FULL = -104;
    private static final int MIN = Integer.MIN_VALUE, MAX = Integer.MAX_VALUE;
    private static final String FIFTEEN = "01,12,23,34,45,56,67,70,02,24,46,60,13,35,57";
    private static final String SIXTEEN = FIFTEEN + ",71";
    private static final String SEVENTEEN = SIXTEEN + ",10";

    private EdgesOfTexts() {
    }

    static void run() {
        newObject();
        sizes();
        biggerThanSizes();
        behindEachStep();
        fourSteps();
        inOrder();
        halfAsMuch();
        twice();
        digits();
        less();
        part();
        sixteenTellings();
        commas();
        unlikeDigits();
        zeroToSeven();
        upToEightLetters();
        lowestByteFirst();
        untilZero();
        bytesAbove();
        fiftyLetters();
        pageEmptied();
        faultOfEmptyAndFull();
        faultAtEachPlace();
        anotherLawIsGone();
        anotherWeekIsGone();
        noneIsRead();
        tellingsByNumber();
    }

    private static GrowsByHalf withLaw(String text) {
        GrowsByHalf x = new GrowsByHalf();
        Texts.law(x, text);
        return x;
    }

    /** Pairs: a size, and what the law makes it. */
    private static void grows(String law, int... pairs) {
        GrowsByHalf x = withLaw(law);
        for (int at = 0; at + 1 < pairs.length; at += 2) {
            Check.due("by " + law + " grown(" + pairs[at] + ")", x.grown(pairs[at]), pairs[at + 1]);
        }
    }

    private static void lawIs(String text, int due) {
        Check.due("law() of " + text, Texts.law(new GrowsByHalf(), text), due);
    }

    private static void weekIs(String text, int due) {
        Check.due("week() of " + text, Texts.week(new GrowsByHalf(), text), due);
    }

    private static void faultIs(int sort, String text, int due) {
        GrowsByHalf x = new GrowsByHalf();
        Texts.write(x, text);
        Check.due("fault(" + sort + ") of " + text, x.fault(sort), due);
    }

    private static void newObject() {
        Check.sentence("Nobody; THE LAW is h; an empty WEEK; nothing was SEEN");
        GrowsByHalf x = new GrowsByHalf();
        Check.due("kind(0)", x.kind(0), UNKNOWN);
        Check.due("count(0)", x.count(0), 0);
        Check.due("count(1)", x.count(1), 1);
        Check.due("grown(3)", x.grown(3), 4);
        Check.due("grown(2)", x.grown(2), 3);
        Check.due("grown(9999)", x.grown(9999), 9999);
        Check.due("telling(0, 0)", x.telling(0, 0), UNKNOWN);
        Check.due("count(2)", x.count(2), 0);
        Check.due("count(3)", x.count(3), 0);
        for (int tale = 0; tale < 4; tale++) {
            Check.due("drop(" + tale + ")", x.drop(tale), NONE);
        }
        Check.due("person(0)", x.person(0), 0);
        for (int tale = 0; tale < 4; tale++) {
            Check.due("firsts of tale " + tale, x.firsts(tale, 0, 0, 0), STATE);
            Check.due("size of tale " + tale, x.size(0, tale), NONE);
        }
    }

    private static void sizes() {
        Check.sentence("SIZES are 0 to 9999");
        grows("+0", 0, 0, 1, 1, 9998, 9998, 9999, 9999, -1, OUTSIDE, 10000, OUTSIDE, MIN, OUTSIDE, MAX, OUTSIDE);
        GrowsByHalf x = Texts.valley("", 1, 1);
        Check.due("tells(0, 0)", x.tells(0, 0), 0);
        Check.due("tells(0, 9999)", x.tells(0, 9999), 9999);
        Check.due("tells(0, -1)", x.tells(0, -1), OUTSIDE);
        Check.due("tells(0, 10000)", x.tells(0, 10000), OUTSIDE);
        Check.due("see(0, 0, 0)", x.see(0, 0, 0), NONE);
        Check.due("size(0, 0)", x.size(0, 0), 0);
        Check.due("see(0, 0, 9999)", x.see(0, 0, 9999), 0);
        Check.due("size(0, 0)", x.size(0, 0), 9999);
    }

    private static void biggerThanSizes() {
        Check.sentence("what is bigger is 9999");
        grows("h", 6665, 9997, 6666, 9999, 6667, 9999, 9999, 9999);
        grows("d", 4999, 9998, 5000, 9999, 5001, 9999, 9999, 9999);
        grows("+1", 9997, 9998, 9998, 9999, 9999, 9999);
        grows("+9", 9989, 9998, 9990, 9999, 9991, 9999, 9999, 9999);
    }

    private static void behindEachStep() {
        Check.sentence("what is bigger is 9999 (behind each STEP)");
        grows("h-1", 6665, 9996, 6666, 9998, 6667, 9998, 9999, 9998);
        grows("d-1", 4999, 9997, 5000, 9998, 9999, 9998);
        grows("+9-9", 9989, 9989, 9990, 9990, 9991, 9990, 9999, 9990);
        grows("d/2", 4999, 4999, 5000, 4999, 9999, 4999);
        grows("dd/2", 2499, 4998, 2500, 4999, 9999, 4999);
        grows("ddd/9", 1249, 1110, 1250, 1111, 9999, 1111);
        grows("dddd", 624, 9984, 625, 9999, 9999, 9999);
        grows("hhhh", 9999, 9999, 6667, 9999);
        grows("d-1h-1", 5000, 9998, 3334, 9998);
    }

    private static void fourSteps() {
        Check.sentence("one to four STEPS");
        lawIs("", STATE);
        lawIs("h", 1);
        lawIs("hh", 2);
        lawIs("hhh", 3);
        lawIs("hhhh", 4);
        lawIs("hhhhh", STATE);
        lawIs("+1", 1);
        lawIs("+1-2/3+4", 4);
        lawIs("+1-2/3+4d", STATE);
        lawIs("+1-2/3+4+5", STATE);
        lawIs("dddd+", STATE);
        lawIs("ddd+", STATE);
        faultIs(0, "hhhh", 4);
        faultIs(0, "hhhhh", 4);
        faultIs(0, "dddd/", 4);
        faultIs(0, "+1-2/3+4", 8);
        faultIs(0, "+1-2/3+4-", 8);
        faultIs(0, "+1-2/3+", 7);
        grows("+1", 0, 1);
        grows("+1+1", 0, 2);
        grows("+1+1+1", 0, 3);
        grows("+1+1+1+1", 0, 4);
    }

    private static void inOrder() {
        Check.sentence("done in order");
        grows("d+1", 3, 7);
        grows("+1d", 3, 8);
        grows("-5+5", 3, 5, 5, 5, 6, 6);
        grows("+5-5", 3, 3, 5, 5);
        grows("h/2d+1", 3, 5, 5, 7);
        grows("+1d/2h", 3, 6, 4, 7);
    }

    private static void halfAsMuch() {
        Check.sentence("h half as much more (rounded down)");
        grows("h", 0, 0, 1, 1, 2, 3, 3, 4, 4, 6, 5, 7, 99, 148, 100, 150, 999, 1498);
        grows("hh", 1, 1, 2, 4, 3, 6);
    }

    private static void twice() {
        Check.sentence("d twice");
        grows("d", 0, 0, 1, 2, 2, 4, 99, 198, 4999, 9998);
    }

    private static void digits() {
        Check.sentence("+ and a digit: so much more; - and a digit");
        for (int digit = 0; digit <= 9; digit++) {
            grows("+" + digit, 0, digit, 40, 40 + digit);
            grows("-" + digit, 40, 40 - digit, 9999, 9999 - digit);
        }
        for (String none : new String[] {"+/", "+:", "-/", "-:", "+h", "-d", "++", "--", "+,", "- "}) {
            lawIs(none, STATE);
            faultIs(0, none, 1);
        }
        for (String none : new String[] {"+", "-", "/"}) {
            lawIs(none, STATE);
            faultIs(0, none, 1);
        }
        for (String none : new String[] {"+11", "-22", "/22", "h2", "d0"}) {
            lawIs(none, STATE);
            faultIs(0, none, none.length() - 1);
        }
        for (String none : new String[] {"0", "9", "1h", "g", "i", "c", "e", "H", "*", ",", ".", "~"}) {
            lawIs(none, STATE);
            faultIs(0, none, 0);
        }
    }

    private static void less() {
        Check.sentence("so much less (0 at least)");
        grows("-1", 0, 0, 1, 0, 2, 1);
        grows("-9", 0, 0, 8, 0, 9, 0, 10, 1);
        grows("-0", 0, 0, 1, 1);
        grows("-9+1", 0, 1, 8, 1, 9, 1, 10, 2);
        grows("-9-9+9", 0, 9, 17, 9, 18, 9, 19, 10);
    }

    private static void part() {
        Check.sentence("/ and 2 to 9: so manieth part (rounded down)");
        for (int digit = 2; digit <= 9; digit++) {
            grows("/" + digit, 0, 0, digit - 1, 0, digit, 1, 2 * digit - 1, 1, 2 * digit, 2, 9999, 9999 / digit);
        }
        for (String none : new String[] {"/0", "/1", "/:", "/.", "//", "/h"}) {
            lawIs(none, STATE);
            faultIs(0, none, 1);
        }
        lawIs("/2", 1);
        lawIs("/9", 1);
        lawIs("h/1", STATE);
        faultIs(0, "h/1", 2);
        faultIs(0, "h/2", 3);
    }

    private static void sixteenTellings() {
        Check.sentence("THE WEEK is a text: one to sixteen TELLINGS");
        weekIs("", STATE);
        weekIs("01", 1);
        weekIs("01,12", 2);
        weekIs(FIFTEEN, 15);
        weekIs(SIXTEEN, 16);
        weekIs(SEVENTEEN, STATE);
        weekIs(SIXTEEN + ",", STATE);
        faultIs(1, FIFTEEN + ",", 45);
        faultIs(1, SIXTEEN, 47);
        faultIs(1, SIXTEEN + ",", 47);
        faultIs(1, SIXTEEN + ",1", 47);
        faultIs(1, SEVENTEEN, 47);
    }

    private static void commas() {
        Check.sentence("TELLINGS with , between");
        weekIs("0112", STATE);
        weekIs(",01", STATE);
        weekIs("01,", STATE);
        weekIs("01,,12", STATE);
        weekIs("01+12", STATE);
        weekIs("01-12", STATE);
        faultIs(1, "0112", 2);
        faultIs(1, ",01", 0);
        faultIs(1, "01,", 3);
        faultIs(1, "01,,12", 3);
        faultIs(1, "01+12", 2);
        faultIs(1, "01-12", 2);
    }

    private static void unlikeDigits() {
        Check.sentence("each two unlike digits");
        for (char digit = '0'; digit <= '7'; digit++) {
            weekIs("" + digit + digit, STATE);
            faultIs(1, "" + digit + digit, 1);
            faultIs(1, "01," + digit + digit, 4);
        }
        weekIs("01,10", 2);
        weekIs("01,01", 2);
        weekIs("01,12", 2);
        weekIs("0", STATE);
        weekIs("01,2", STATE);
        faultIs(1, "0", 1);
        faultIs(1, "01,2", 4);
        faultIs(1, "012", 2);
        faultIs(1, "0,1", 1);
    }

    private static void zeroToSeven() {
        Check.sentence("0 to 7: who tells whom");
        weekIs("07", 1);
        weekIs("70", 1);
        for (String none : new String[] {"08", "0/", "0h", "78"}) {
            weekIs(none, STATE);
            faultIs(1, none, 1);
        }
        for (String none : new String[] {"80", "/0", "90", "h", " 01"}) {
            weekIs(none, STATE);
            faultIs(1, none, 0);
        }
        GrowsByHalf x = new GrowsByHalf();
        Texts.week(x, "07,70");
        Check.due("telling(0, 0)", x.telling(0, 0), 0);
        Check.due("telling(0, 1)", x.telling(0, 1), 7);
        Check.due("telling(1, 0)", x.telling(1, 0), 7);
        Check.due("telling(1, 1)", x.telling(1, 1), 0);
    }

    /** This many letters "A". */
    private static long lettersA(int many) {
        return many == 0 ? 0 : 0x4141414141414141L >>> (64 - 8 * many);
    }

    private static void upToEightLetters() {
        Check.sentence("Letters come behind THE PAGE, up to eight");
        for (int many = 0; many <= 8; many++) {
            GrowsByHalf x = new GrowsByHalf();
            Check.due(many + " letters", x.letters(lettersA(many)), many);
            Check.due("count(4)", x.count(4), many);
            Check.due("eight behind them", x.letters(lettersA(8)), many + 8);
            Check.due("blank()", x.blank(), many + 8);
        }
    }

    private static void lowestByteFirst() {
        Check.sentence("in the bytes of w, the lowest byte first");
        GrowsByHalf x = new GrowsByHalf();
        x.letters('h' | 'd' << 8 | '+' << 16 | '7' << 24);
        Check.due("law() of hd+7", x.law(), 3);
        Check.due("grown(5)", x.grown(5), 21);
        Check.due("01,12,23", x.letters(0x33322C32312C3130L), 8);
        Check.due("behind the page", x.letters(0x30332CL), 11);
        Check.due("week()", x.week(), 4);
        int[] tellers = {0, 1, 2, 3};
        int[] told = {1, 2, 3, 0};
        for (int telling = 0; telling < 4; telling++) {
            Check.due("who tells in " + telling, x.telling(telling, 0), tellers[telling]);
            Check.due("whom in " + telling, x.telling(telling, 1), told[telling]);
        }
    }

    private static void untilZero() {
        Check.sentence("until a byte that is 0; OUTSIDE: one behind a 0 that is not 0");
        GrowsByHalf x = new GrowsByHalf();
        Check.due("letters(0)", x.letters(0), 0);
        Check.due("one letter", x.letters('h'), 1);
        Check.due("letters(0) again", x.letters(0), 1);
        for (int hole = 0; hole <= 7; hole++) {
            long w = lettersA(8) & ~(255L << (8 * hole));
            GrowsByHalf y = new GrowsByHalf();
            Check.due("a 0 at " + hole, y.letters(w), hole == 7 ? 7 : OUTSIDE);
            Check.due("count(4)", y.count(4), hole == 7 ? 7 : 0);
        }
        for (int last = 1; last <= 7; last++) {
            Check.due("just a letter at " + last, x.letters(1L << (8 * last)), OUTSIDE);
            Check.due("just 127 at " + last, x.letters(127L << (8 * last)), OUTSIDE);
        }
        Check.due("count(4)", x.count(4), 1);
    }

    private static void bytesAbove() {
        Check.sentence("OUTSIDE: a byte above 126");
        for (int place = 0; place <= 7; place++) {
            for (int code : new int[] {1, 31, 65, 125, 126, 127, 128, 129, 254, 255}) {
                GrowsByHalf x = new GrowsByHalf();
                long w = lettersA(8) & ~(255L << (8 * place)) | (long) code << (8 * place);
                Check.due(code + " at " + place, x.letters(w), code <= 126 ? 8 : OUTSIDE);
                Check.due("count(4)", x.count(4), code <= 126 ? 8 : 0);
            }
        }
        GrowsByHalf x = new GrowsByHalf();
        Check.due("126", x.letters(126), 1);
        Check.due("127", x.letters(127), OUTSIDE);
        Check.due("-1", x.letters(-1L), OUTSIDE);
        Check.due("the least long", x.letters(Long.MIN_VALUE), OUTSIDE);
        Check.due("the greatest long", x.letters(Long.MAX_VALUE), OUTSIDE);
        Check.due("count(4)", x.count(4), 1);
    }

    private static GrowsByHalf withPage(int letters) {
        GrowsByHalf x = new GrowsByHalf();
        for (int left = letters; left > 0; left -= 8) {
            x.letters(lettersA(Math.min(8, left)));
        }
        return x;
    }

    private static void fiftyLetters() {
        Check.sentence("FULL: above 50");
        for (int before = 41; before <= 50; before++) {
            for (int more = 0; more <= 8; more++) {
                GrowsByHalf x = withPage(before);
                boolean fits = before + more <= 50;
                Check.due(more + " behind " + before, x.letters(lettersA(more)), fits ? before + more : FULL);
                Check.due("count(4)", x.count(4), fits ? before + more : before);
            }
        }
        GrowsByHalf full = withPage(50);
        Check.due("OUTSIDE ahead of FULL", full.letters(127), OUTSIDE);
        Check.due("OUTSIDE ahead of FULL, behind a 0", full.letters(0x4100), OUTSIDE);
        Check.due("fifty yet", full.blank(), 50);
        Check.due("room again", full.letters(lettersA(8)), 8);
    }

    private static void pageEmptied() {
        Check.sentence("THE PAGE is empty: how many letters it had");
        GrowsByHalf x = new GrowsByHalf();
        Check.due("an empty one", x.blank(), 0);
        Check.due("one letter", withPage(1).blank(), 1);
        GrowsByHalf full = withPage(50);
        Check.due("a full one", full.blank(), 50);
        Check.due("count(4)", full.count(4), 0);
        Check.due("again", full.blank(), 0);
        Check.due("fault(0)", full.fault(0), 0);
        Texts.write(full, "d");
        Check.due("law() of what came since", full.law(), 1);
    }

    private static void faultOfEmptyAndFull() {
        Check.sentence("how many letters it has, if there is none; OUTSIDE");
        GrowsByHalf x = new GrowsByHalf();
        Check.due("fault(0) of an empty page", x.fault(0), 0);
        Check.due("fault(1) of an empty page", x.fault(1), 0);
        for (int sort : new int[] {MIN, -1, 2, 3, MAX}) {
            Check.due("fault(" + sort + ")", x.fault(sort), OUTSIDE);
        }
        Texts.write(x, "hhhh" + SIXTEEN.substring(4, 47) + "000");
        Check.due("fifty letters", x.count(4), 50);
        Check.due("fault(0) of a full page", x.fault(0), 4);
        Check.due("fault(1) of a full page", x.fault(1), 0);
        Check.due("fault(2) of a full page", x.fault(2), OUTSIDE);
        Check.due("the page stays", x.blank(), 50);
    }

    /** One letter of a fine text is another one: there is the fault, behind those ahead of it. */
    private static void faultAtEachPlace() {
        Check.sentence("The place (from 0) of the first letter that none has there, behind those ahead of it");
        String law = "+1h/9-0";
        for (int place = 0; place < law.length(); place++) {
            faultIs(0, law.substring(0, place) + "x" + law.substring(place + 1), place);
        }
        for (int place = 0; place < SIXTEEN.length(); place++) {
            faultIs(1, SIXTEEN.substring(0, place) + "x" + SIXTEEN.substring(place + 1), place);
        }
        for (int length = 0; length <= SIXTEEN.length(); length++) {
            faultIs(1, SIXTEEN.substring(0, length), length);
        }
        faultIs(0, "xh", 0);
        faultIs(0, "hxx", 1);
        faultIs(0, "01,12", 0);
        faultIs(1, "h", 0);
    }

    private static void anotherLawIsGone() {
        Check.sentence("THE PAGE is read as THE LAW (another one is gone): how many STEPS; THE PAGE is empty then");
        GrowsByHalf x = withLaw("+1+2+3+4");
        Check.due("grown(0)", x.grown(0), 10);
        Check.due("law() of d", Texts.law(x, "d"), 1);
        Check.due("count(4)", x.count(4), 0);
        Check.due("count(1)", x.count(1), 1);
        Check.due("grown(7)", x.grown(7), 14);
        Check.due("law() of nothing", x.law(), STATE);
        Check.due("law() of /3+9", Texts.law(x, "/3+9"), 2);
        Check.due("grown(7)", x.grown(7), 11);
        Check.due("grown(9999)", x.grown(9999), 3342);
        Check.due("grown(0)", x.grown(0), 9);
        Check.due("law() of h", Texts.law(x, "h"), 1);
        Check.due("grown(7)", x.grown(7), 10);
        Check.due("count(5)", x.count(5), 4);
        Check.due("count(6)", x.count(6), 0);
    }

    private static void anotherWeekIsGone() {
        Check.sentence("THE PAGE is read as THE WEEK (another one is gone): how many TELLINGS; THE PAGE is empty then");
        GrowsByHalf x = Texts.valley(SIXTEEN, 1, 1, 1);
        Check.due("telling(15, 0)", x.telling(15, 0), 7);
        x.see(0, 0, 5);
        Check.due("size(2, 0)", x.size(2, 0), 5);
        Check.due("week() of 01", Texts.week(x, "01"), 1);
        Check.due("count(4)", x.count(4), 0);
        Check.due("count(2)", x.count(2), 1);
        Check.due("telling(1, 0)", x.telling(1, 0), UNKNOWN);
        Check.due("size(1, 0)", x.size(1, 0), 5);
        Check.due("size(2, 0)", x.size(2, 0), NONE);
        Check.due("week() of nothing", x.week(), STATE);
        Check.due("count(6)", x.count(6), 2);
        Check.due("count(5)", x.count(5), 0);
    }

    private static void noneIsRead() {
        Check.sentence("STATE: it is none");
        GrowsByHalf x = Texts.valley("01,10", 0, 0);
        Texts.law(x, "d+1");
        for (String text : new String[] {"", "hhhhh", "+", "/1", "01,1", "01,11", SEVENTEEN, "x"}) {
            Texts.write(x, text);
            Check.due("law() of " + text, x.law(), STATE);
            Check.due("week() of " + text, x.week(), STATE);
            Check.due("the page stays", x.blank(), text.length());
            Check.due("the law stays", x.grown(3), 7);
            Check.due("its steps", x.count(1), 2);
            Check.due("the week stays", x.telling(1, 0), 1);
            Check.due("its tellings", x.count(2), 2);
        }
        Texts.write(x, "01");
        Check.due("law() of a week", x.law(), STATE);
        Check.due("week() of it", x.week(), 1);
        Texts.write(x, "h");
        Check.due("week() of a law", x.week(), STATE);
        Check.due("law() of it", x.law(), 1);
        Check.due("count(5)", x.count(5), 2);
        Check.due("count(6)", x.count(6), 2);
    }

    private static void tellingsByNumber() {
        Check.sentence("Of a TELLING of THE WEEK: who tells, whom. UNKNOWN; OUTSIDE");
        GrowsByHalf x = new GrowsByHalf();
        Check.due("telling(0, 0) of an empty week", x.telling(0, 0), UNKNOWN);
        Check.due("telling(-1, 0) of an empty week", x.telling(-1, 0), UNKNOWN);
        Check.due("telling(0, 2) of an empty week", x.telling(0, 2), UNKNOWN);
        Texts.week(x, SIXTEEN);
        for (int telling = 0; telling < 16; telling++) {
            Check.due("who in " + telling, x.telling(telling, 0), SIXTEEN.charAt(3 * telling) - '0');
            Check.due("whom in " + telling, x.telling(telling, 1), SIXTEEN.charAt(3 * telling + 1) - '0');
            Check.due("what 2 in " + telling, x.telling(telling, 2), OUTSIDE);
            Check.due("what -1 in " + telling, x.telling(telling, -1), OUTSIDE);
        }
        for (int none : new int[] {MIN, -1, 16, 17, MAX}) {
            Check.due("telling(" + none + ", 0)", x.telling(none, 0), UNKNOWN);
            Check.due("UNKNOWN ahead of OUTSIDE", x.telling(none, 2), UNKNOWN);
        }
        Texts.week(x, "12,21,10");
        Check.due("telling(2, 1)", x.telling(2, 1), 0);
        Check.due("telling(3, 1)", x.telling(3, 1), UNKNOWN);
        Check.due("telling(0, the least)", x.telling(0, MIN), OUTSIDE);
        Check.due("telling(0, the greatest)", x.telling(0, MAX), OUTSIDE);
    }
}
