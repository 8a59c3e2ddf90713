/** For each promise of the document: ordinary calls, the edges that it names, wrong ones, worked out by hand. */
final class PromiseTest {
    private static final int NONE = -1, UNKNOWN = -101, OUTSIDE = -102, STATE = -103, FULL = -104;
    private static final int TELLER = 0, MODEST = 1, DOCTOR = 2, BRAGGART = 3;
    private static final int MIN = Integer.MIN_VALUE, MAX = Integer.MAX_VALUE;
    private static final String SIXTEEN = "01,12,23,34,45,56,67,70,01,12,23,34,45,56,67,70";

    private static String promise = "";

    private PromiseTest() {
    }

    private static void due(String what, long got, long due) {
        Check.same(promise + ": " + what, got, due);
    }

    static void run() {
        constants();
        newObject();
        letters();
        blank();
        faultOfLaw();
        faultOfWeek();
        law();
        week();
        grown();
        telling();
        person();
        kind();
        as();
        tells();
        knows();
        see();
        drop();
        size();
        sizeByKinds();
        from();
        firsts();
        modest();
        one();
        ask();
        askOfLikeOnes();
        askFromOneToNinetyNine();
        chain();
        chainOfTwenty();
        chainThirtyTimes();
        chance();
        likeliest();
        gossip();
        gossipByHand();
        image();
        restore();
        count();
        digest();
        digestOfNobody();
        refusalsChangeNothing();
    }

    private static void constants() {
        promise = "the constants";
        due("NONE", GrowsByHalf.NONE, NONE);
        due("UNKNOWN", GrowsByHalf.UNKNOWN, UNKNOWN);
        due("OUTSIDE", GrowsByHalf.OUTSIDE, OUTSIDE);
        due("STATE", GrowsByHalf.STATE, STATE);
        due("FULL", GrowsByHalf.FULL, FULL);
    }

    private static void newObject() {
        promise = "promise 1";
        GrowsByHalf x = new GrowsByHalf();
        int[] counts = {0, 1, 0, 0, 0, 0, 0, 0};
        for (int what = 0; what < counts.length; what++) {
            due("count(" + what + ")", x.count(what), counts[what]);
        }
        due("the law is h", x.grown(7), 10);
        due("nobody", x.kind(0), UNKNOWN);
        due("an empty week", x.telling(0, 0), UNKNOWN);
        due("an empty page", x.blank(), 0);
        due("no image", x.restore(), STATE);
        for (int tale = 0; tale < 4; tale++) {
            due("nothing was seen", x.drop(tale), NONE);
        }
    }

    private static void letters() {
        promise = "promise 2";
        GrowsByHalf x = new GrowsByHalf();
        due("none", x.letters(0), 0);
        due("two", x.letters(Texts.packed("hd", 0)), 2);
        due("the lowest byte first", x.fault(0), 2);
        due("behind the page", x.letters(Texts.packed("+7", 0)), 4);
        due("a law of three", x.law(), 3);
        due("the least code", x.letters(1), 1);
        due("the greatest code", x.letters(126), 2);
        due("127", x.letters(127), OUTSIDE);
        due("a byte above 127", x.letters(0x80), OUTSIDE);
        due("the highest byte above 126", x.letters(0x7F41414141414141L), OUTSIDE);
        due("the highest byte is negative", x.letters(0xFF41414141414141L), OUTSIDE);
        due("behind a 0", x.letters(0x4100), OUTSIDE);
        due("far behind a 0", x.letters(0x4100000000000041L), OUTSIDE);
        due("all bits", x.letters(-1L), OUTSIDE);
        due("the page as it was", x.count(4), 2);
        for (int eights = 1; eights <= 6; eights++) {
            due("eight", x.letters(0x4141414141414141L), 2 + 8 * eights);
        }
        due("none at 50", x.letters(0), 50);
        due("one at 50", x.letters(65), FULL);
        due("OUTSIDE ahead of FULL", x.letters(127), OUTSIDE);
        x.blank();
        for (int eights = 0; eights < 6; eights++) {
            x.letters(0x4141414141414141L);
        }
        due("three at 48", x.letters(0x414141), FULL);
        due("two at 48", x.letters(0x4141), 50);
    }

    private static void blank() {
        promise = "promise 3";
        GrowsByHalf x = new GrowsByHalf();
        due("an empty page", x.blank(), 0);
        Texts.write(x, "01,12,23,45");
        due("eleven letters", x.blank(), 11);
        due("it is empty then", x.blank(), 0);
        due("letters begin anew", x.letters('h'), 1);
        due("a law", x.law(), 1);
    }

    private static void fault(int sort, String text, int place) {
        GrowsByHalf x = new GrowsByHalf();
        Texts.write(x, text);
        due("fault(" + sort + ") of " + text, x.fault(sort), place);
        due("the page stays", x.count(4), text.length());
    }

    private static void faultOfLaw() {
        promise = "promise 4";
        String[] fine = {"", "h", "d", "hhhh", "+0", "-9", "/2", "/9", "+", "h-", "hhh/", "+1-2/3+4", "hd+1"};
        for (String text : fine) {
            fault(0, text, text.length());
        }
        fault(0, "x", 0);
        fault(0, "1", 0);
        fault(0, "h1", 1);
        fault(0, "hhhhh", 4);
        fault(0, "hhhh+", 4);
        fault(0, "+1+2+3+4h", 8);
        fault(0, "/0", 1);
        fault(0, "/1", 1);
        fault(0, "/:", 1);
        fault(0, "//", 1);
        fault(0, "++", 1);
        fault(0, "+h", 1);
        fault(0, "-/", 1);
        fault(0, "+:", 1);
        fault(0, "hxh", 1);
        fault(0, "H", 0);
        fault(0, "h h", 1);
        fault(0, "+12", 2);
        GrowsByHalf x = new GrowsByHalf();
        due("a sort of -1", x.fault(-1), OUTSIDE);
        due("a sort of 2", x.fault(2), OUTSIDE);
        due("the least sort", x.fault(MIN), OUTSIDE);
    }

    private static void faultOfWeek() {
        String[] fine = {"", "0", "7", "01", "70", "01,", "01,2", "01,12", SIXTEEN, SIXTEEN.substring(0, 45)};
        for (String text : fine) {
            fault(1, text, text.length());
        }
        fault(1, "h", 0);
        fault(1, ",", 0);
        fault(1, "8", 0);
        fault(1, "08", 1);
        fault(1, "00", 1);
        fault(1, "77", 1);
        fault(1, "0,", 1);
        fault(1, "012", 2);
        fault(1, "01;", 2);
        fault(1, "01,,", 3);
        fault(1, "01,8", 3);
        fault(1, "01,11", 4);
        fault(1, "01,1/", 4);
        fault(1, SIXTEEN + ",", 47);
        fault(1, SIXTEEN + "0", 47);
        fault(1, SIXTEEN + ",01", 47);
    }

    private static void law() {
        promise = "promise 5";
        GrowsByHalf x = new GrowsByHalf();
        due("an empty page", x.law(), STATE);
        for (String text : new String[] {"+", "h/", "hhhhh", "/1", "01", "h,h", "/0", "x"}) {
            Texts.write(x, text);
            due(text + " is none", x.law(), STATE);
            due("the page stays", x.blank(), text.length());
        }
        due("it is h yet", x.grown(10), 15);
        due("not read", x.count(5), 0);
        due("one step", Texts.law(x, "d"), 1);
        due("twice", x.grown(10), 20);
        due("the page is empty", x.count(4), 0);
        due("four steps", Texts.law(x, "+9-1/3h"), 4);
        due("another one is gone", x.grown(10), 9);
        due("one step again", Texts.law(x, "/2"), 1);
        due("just that step", x.grown(10), 5);
        due("read three times", x.count(5), 3);
    }

    private static void week() {
        promise = "promise 6";
        GrowsByHalf x = new GrowsByHalf();
        due("an empty page", x.week(), STATE);
        for (String text : new String[] {"0", "01,", "01,1", "00", "18", "01.12", "h", "0112", SIXTEEN + ","}) {
            Texts.write(x, text);
            due(text + " is none", x.week(), STATE);
            due("the page stays", x.blank(), text.length());
        }
        due("not read", x.count(6), 0);
        due("sixteen", Texts.week(x, SIXTEEN), 16);
        due("the page is empty", x.count(4), 0);
        due("the last one", x.telling(15, 0), 7);
        due("one", Texts.week(x, "25"), 1);
        due("another one is gone", x.telling(1, 0), UNKNOWN);
        due("read twice", x.count(6), 2);
    }

    private static void grown() {
        promise = "promise 7";
        GrowsByHalf x = new GrowsByHalf();
        due("0", x.grown(0), 0);
        due("half of 1 rounded down", x.grown(1), 1);
        due("7", x.grown(7), 10);
        due("6666", x.grown(6666), 9999);
        due("9999", x.grown(9999), 9999);
        due("-1", x.grown(-1), OUTSIDE);
        due("10000", x.grown(10000), OUTSIDE);
        due("the greatest int", x.grown(MAX), OUTSIDE);
        due("the least int", x.grown(MIN), OUTSIDE);
        Texts.law(x, "dd/2");
        due("9999 behind each step", x.grown(6000), 4999);
        due("as told below that", x.grown(2000), 4000);
        Texts.law(x, "-5+5");
        due("0 at least", x.grown(3), 5);
        due("less, then more", x.grown(9), 9);
        Texts.law(x, "+9");
        due("9 more than 9995", x.grown(9995), 9999);
        Texts.law(x, "/9");
        due("the ninth part rounded down", x.grown(80), 8);
        Texts.law(x, "+0");
        due("as it is", x.grown(123), 123);
        Texts.law(x, "h/2hd");
        due("in order", x.grown(5), 8);
    }

    private static void telling() {
        promise = "promise 8";
        GrowsByHalf x = Texts.valley("27,70");
        due("who", x.telling(0, 0), 2);
        due("whom", x.telling(0, 1), 7);
        due("who tells last", x.telling(1, 0), 7);
        due("whom last", x.telling(1, 1), 0);
        due("a third one", x.telling(2, 0), UNKNOWN);
        due("-1", x.telling(-1, 0), UNKNOWN);
        due("16", x.telling(16, 0), UNKNOWN);
        due("what -1", x.telling(0, -1), OUTSIDE);
        due("what 2", x.telling(0, 2), OUTSIDE);
        due("UNKNOWN first", x.telling(2, 2), UNKNOWN);
    }

    private static void person() {
        promise = "promise 9";
        GrowsByHalf x = new GrowsByHalf();
        due("kind -1", x.person(-1), OUTSIDE);
        due("kind 4", x.person(4), OUTSIDE);
        for (int number = 0; number < 8; number++) {
            due("its number", x.person(number % 4), number);
        }
        due("a ninth one", x.person(TELLER), FULL);
        due("OUTSIDE first", x.person(4), OUTSIDE);
        due("eight", x.count(0), 8);
    }

    private static void kind() {
        promise = "promise 10";
        GrowsByHalf x = Texts.valley("", BRAGGART, DOCTOR, MODEST, TELLER);
        for (int person = 0; person < 4; person++) {
            due("the kind", x.kind(person), 3 - person);
        }
        due("4", x.kind(4), UNKNOWN);
        due("-1", x.kind(-1), UNKNOWN);
        due("the greatest int", x.kind(MAX), UNKNOWN);
    }

    private static void as() {
        promise = "promise 11";
        GrowsByHalf x = Texts.valley("", BRAGGART, DOCTOR, MODEST, TELLER);
        int[][] due = {{0, NONE, NONE, 0}, {1, 1, 1, NONE}, {2, 2, NONE, NONE}, {3, NONE, NONE, NONE}};
        for (int person = 0; person < 4; person++) {
            for (int kind = 0; kind < 4; kind++) {
                due(person + " as " + kind, x.as(person, kind), due[person][kind]);
            }
        }
        due("nobody", x.as(4, 0), UNKNOWN);
        due("-1", x.as(-1, 0), UNKNOWN);
        due("kind -1", x.as(0, -1), OUTSIDE);
        due("kind 4", x.as(0, 4), OUTSIDE);
        due("UNKNOWN first", x.as(4, 4), UNKNOWN);
    }

    private static void tells() {
        promise = "promise 12";
        GrowsByHalf x = Texts.valley("", TELLER, MODEST, DOCTOR, BRAGGART);
        int[] due = {37, 25, 12, 55};
        int[] dueByLaw = {9, 25, 12, 3};
        int[] dueOfMost = {9999, 9999, 4999, 9999};
        for (int person = 0; person < 4; person++) {
            due("of 25", x.tells(person, 25), due[person]);
            due("of 9999", x.tells(person, 9999), dueOfMost[person]);
            due("of 0", x.tells(person, 0), 0);
        }
        Texts.law(x, "+3/3");
        for (int person = 0; person < 4; person++) {
            due("of 25 by another law", x.tells(person, 25), person == 3 ? 4 : dueByLaw[person]);
        }
        due("nobody", x.tells(4, 5), UNKNOWN);
        due("-1", x.tells(-1, 5), UNKNOWN);
        due("size -1", x.tells(0, -1), OUTSIDE);
        due("size 10000", x.tells(1, 10000), OUTSIDE);
        due("UNKNOWN first", x.tells(4, -1), UNKNOWN);
    }

    private static void knows() {
        promise = "promise 13";
        GrowsByHalf x = Texts.valley("", TELLER, TELLER, TELLER);
        due("not so far", x.knows(0, 1, true), 0);
        due("it did", x.knows(0, 1, true), 1);
        due("one way", x.knows(1, 0, false), 0);
        due("of others not", x.knows(0, 2, false), 0);
        due("no more", x.knows(0, 1, false), 1);
        due("not now", x.knows(0, 1, false), 0);
        due("itself", x.knows(1, 1, true), UNKNOWN);
        due("a nobody", x.knows(3, 1, true), UNKNOWN);
        due("b nobody", x.knows(1, 3, true), UNKNOWN);
        due("a -1", x.knows(-1, 1, true), UNKNOWN);
        due("b -1", x.knows(1, -1, true), UNKNOWN);
        GrowsByHalf full = Texts.valley("", 0, 0, 0, 0, 0, 0, 0, 0);
        for (int pair = 0; pair < 64; pair++) {
            due("who knows itself", full.knows(pair / 8, pair % 8, true), pair / 8 == pair % 8 ? UNKNOWN : 0);
        }
        due("the last one", full.knows(7, 6, false), 1);
        due("the others as they were", full.knows(7, 5, true), 1);
    }

    private static void see() {
        promise = "promise 14";
        GrowsByHalf x = Texts.valley("", TELLER, TELLER);
        due("by nobody so far", x.see(0, 1, 0), NONE);
        due("by 1 so far", x.see(0, 0, 9999), 1);
        due("by nobody else then", x.size(1, 0), NONE);
        due("by 0", x.size(0, 0), 9999);
        due("by itself so far", x.see(0, 0, 12), 0);
        due("another size", x.size(0, 0), 12);
        due("another tale", x.see(3, 1, 5), NONE);
        due("two of them", x.count(3), 2);
        due("tale -1", x.see(-1, 0, 5), UNKNOWN);
        due("tale 4", x.see(4, 0, 5), UNKNOWN);
        due("nobody", x.see(0, 2, 5), UNKNOWN);
        due("person -1", x.see(0, -1, 5), UNKNOWN);
        due("size -1", x.see(0, 0, -1), OUTSIDE);
        due("size 10000", x.see(0, 0, 10000), OUTSIDE);
        due("UNKNOWN first", x.see(0, 2, -1), UNKNOWN);
        due("nothing is changed", x.size(0, 0), 12);
    }

    private static void drop() {
        promise = "promise 15";
        GrowsByHalf x = Texts.valley("", TELLER, TELLER);
        due("by nobody", x.drop(3), NONE);
        x.see(3, 1, 40);
        x.see(2, 0, 30);
        due("by 1", x.drop(3), 1);
        due("by nobody now", x.drop(3), NONE);
        due("nobody has it", x.size(1, 3), NONE);
        due("the other tale is there", x.size(0, 2), 30);
        due("-1", x.drop(-1), UNKNOWN);
        due("4", x.drop(4), UNKNOWN);
    }

    private static void size() {
        promise = "promise 16";
        GrowsByHalf x = Texts.valley("01,12,20,03", TELLER, TELLER, TELLER);
        due("not seen", x.size(0, 0), NONE);
        x.see(0, 0, 10);
        due("bigger from the last one", x.size(0, 0), 33);
        due("the first told", x.size(1, 0), 15);
        due("the second told", x.size(2, 0), 22);
        x.person(TELLER);
        due("who comes behind the week's text is told, too", x.size(3, 0), 49);
        due("another tale", x.size(0, 1), NONE);
        x.see(1, 2, 0);
        due("a tale of size 0 is had, too", x.size(1, 1), NONE);
        due("0 grows by 0", x.size(0, 1), 0);
        due("nobody", x.size(4, 0), UNKNOWN);
        due("person -1", x.size(-1, 0), UNKNOWN);
        due("tale -1", x.size(0, -1), UNKNOWN);
        due("tale 4", x.size(0, 4), UNKNOWN);
        GrowsByHalf away = Texts.valley("07,70,01", TELLER, TELLER);
        away.see(0, 0, 8);
        due("who is not there tells nobody", away.size(1, 0), 12);
        due("and nobody makes it bigger", away.size(0, 0), 8);
        GrowsByHalf order = Texts.valley("12,01", TELLER, TELLER, TELLER);
        order.see(0, 0, 8);
        due("who is told too late tells nothing", order.size(2, 0), NONE);
    }

    private static void sizeByKinds() {
        GrowsByHalf x = Texts.valley("01,12,23,30", BRAGGART, MODEST, DOCTOR, TELLER);
        x.see(2, 0, 20);
        due("twice the law", x.size(1, 2), 45);
        due("as it is", x.size(2, 2), 45);
        due("half", x.size(3, 2), 22);
        due("bigger again", x.size(0, 2), 33);
        Texts.law(x, "-9");
        due("less by the law: what is smaller is not taken", x.size(0, 2), 20);
        due("less twice", x.size(1, 2), 2);
        GrowsByHalf alike = Texts.valley("01,10", MODEST, MODEST);
        alike.see(0, 0, 5);
        due("as big is not bigger", alike.from(0, 0), NONE);
    }

    private static void from() {
        promise = "promise 17";
        GrowsByHalf x = Texts.valley("01,21,12,03", TELLER, TELLER, TELLER, MODEST);
        x.see(0, 0, 10);
        due("seen", x.from(0, 0), NONE);
        due("told", x.from(1, 0), 0);
        due("told by who was told", x.from(2, 0), 1);
        due("the other way", x.from(3, 0), 0);
        due("not had", x.from(3, 1), NONE);
        x.see(1, 2, 10);
        due("had from another one", x.from(1, 1), 2);
        due("bigger than seen", x.from(2, 1), 1);
        GrowsByHalf y = Texts.valley("01,02,21", TELLER, TELLER, BRAGGART);
        y.see(0, 0, 10);
        due("bigger from another one", y.from(1, 0), 2);
        due("its size", y.size(1, 0), 33);
        due("nobody", x.from(4, 0), UNKNOWN);
        due("person -1", x.from(-1, 0), UNKNOWN);
        due("tale -1", x.from(0, -1), UNKNOWN);
        due("tale 4", x.from(0, 4), UNKNOWN);
    }

    private static void firsts() {
        promise = "promise 18";
        GrowsByHalf x = Texts.valley("01,12", TELLER, DOCTOR, TELLER);
        x.see(1, 0, 7);
        due("of 5 behind half of half more: how many", x.firsts(1, 2, 5, 0), 1);
        due("of 4: 6", x.firsts(1, 2, 4, 1), 6);
        due("of 5: 7", x.firsts(1, 2, 5, 1), 7);
        due("of 10, half of 20 and of 21: how many", x.firsts(1, 2, 10, 0), 1);
        due("the least", x.firsts(1, 2, 10, 1), 14);
        due("the greatest", x.firsts(1, 2, 10, 2), 14);
        due("of 0: 0 and 1", x.firsts(1, 2, 0, 0), 2);
        due("the least of them", x.firsts(1, 2, 0, 1), 0);
        due("the greatest of them", x.firsts(1, 2, 0, 2), 1);
        due("none: how many", x.firsts(1, 1, 2, 0), 0);
        due("none: the least", x.firsts(1, 1, 2, 1), NONE);
        due("none: the greatest", x.firsts(1, 1, 2, 2), NONE);
        due("the witness itself", x.firsts(1, 0, 999, 1), 999);
        due("1000 is no first", x.firsts(1, 0, 1000, 0), 0);
        due("the greatest first", x.firsts(1, 1, 1498, 2), 999);
        due("nobody has seen it", x.firsts(0, 2, 5, 0), STATE);
        x.see(0, 2, 7);
        due("not told: none", x.firsts(0, 0, 7, 0), 0);
        due("tale -1", x.firsts(-1, 2, 5, 0), UNKNOWN);
        due("tale 4", x.firsts(4, 2, 5, 0), UNKNOWN);
        due("nobody", x.firsts(1, 3, 5, 0), UNKNOWN);
        due("size -1", x.firsts(1, 2, -1, 0), OUTSIDE);
        due("size 10000", x.firsts(1, 2, 10000, 0), OUTSIDE);
        due("what -1", x.firsts(1, 2, 5, -1), OUTSIDE);
        due("what 3", x.firsts(1, 2, 5, 3), OUTSIDE);
        due("UNKNOWN ahead of OUTSIDE", x.firsts(1, 3, -1, 0), UNKNOWN);
        due("OUTSIDE ahead of STATE", x.firsts(3, 2, 5, 3), OUTSIDE);
        Texts.law(x, "dddd");
        Texts.week(x, "01,10,01,10,01,10");
        x.person(TELLER);
        x.see(2, 0, 1);
        due("9999 comes of all from 10 on", x.firsts(2, 1, 9999, 0), 990);
        due("from 10", x.firsts(2, 1, 9999, 1), 10);
        Texts.law(x, "/9");
        Texts.week(x, "03,31");
        due("all that come to 12", x.firsts(2, 1, 12, 0), 28);
        due("from 972", x.firsts(2, 1, 12, 1), 972);
        due("to the greatest", x.firsts(2, 1, 12, 2), 999);
    }

    private static void modest() {
        promise = "promise 19";
        GrowsByHalf x = Texts.valley("01,12,03,32", TELLER, TELLER, TELLER, BRAGGART, DOCTOR, MODEST);
        x.see(0, 0, 20);
        due("as it is: 2 has it from 3", x.size(2, 0), 67);
        due("67 is as it is: neither 1 nor 2 matters, DOCTOR and MODEST are none", x.modest(0, 2, 67), 6);
        due("45: had 0 been modest", x.modest(0, 2, 45), 1 + 8);
        due("30: had 0 been modest", x.modest(0, 2, 30), 0);
        due("of 1: 20", x.modest(0, 1, 20), 1);
        due("of 1: 30", x.modest(0, 1, 30), 2 + 4 + 8);
        due("of 3: 20", x.modest(0, 3, 20), 1);
        due("of the witness", x.modest(0, 0, 20), 15);
        due("of who does not have it", x.modest(0, 4, 20), 0);
        due("nobody has seen it", x.modest(1, 2, 20), STATE);
        due("tale -1", x.modest(-1, 2, 20), UNKNOWN);
        due("tale 4", x.modest(4, 2, 20), UNKNOWN);
        due("nobody", x.modest(0, 6, 20), UNKNOWN);
        due("person -1", x.modest(0, -1, 20), UNKNOWN);
        due("size -1", x.modest(0, 2, -1), OUTSIDE);
        due("size 10000", x.modest(0, 2, 10000), OUTSIDE);
        due("UNKNOWN ahead of OUTSIDE", x.modest(4, 2, -1), UNKNOWN);
        due("OUTSIDE ahead of STATE", x.modest(1, 2, -1), OUTSIDE);
    }

    private static void one() {
        promise = "promise 20";
        GrowsByHalf x = Texts.valley("01,02", TELLER, TELLER, DOCTOR);
        due("seen by 0 as 10", x.one(0, 10, 1, 15), 1);
        due("the other way round", x.one(1, 15, 0, 10), 1);
        due("two that were told by 0", x.one(1, 15, 2, 15), 1);
        due("half of 3 and of 2: 4 and 3", x.one(1, 4, 2, 4), 1);
        due("of unlike sizes", x.one(1, 15, 2, 16), 0);
        due("of size 999", x.one(0, 999, 1, 1498), 1);
        due("of size 1000", x.one(0, 1000, 1, 1500), 0);
        due("of size 0", x.one(0, 0, 2, 0), 1);
        Texts.law(x, "/9");
        due("nine ways", x.one(1, 3, 2, 3), 9);
        Texts.week(x, "01,02,21,12");
        due("any of them may be the witness", x.one(1, 0, 2, 0), 9 + 1 + 1);
        due("what was seen does not matter", x.see(0, 0, 7), NONE);
        due("the same", x.one(1, 0, 2, 0), 11);
        due("a nobody", x.one(3, 1, 0, 1), UNKNOWN);
        due("b nobody", x.one(0, 1, 3, 1), UNKNOWN);
        due("a -1", x.one(-1, 1, 0, 1), UNKNOWN);
        due("the same person", x.one(1, 1, 1, 1), UNKNOWN);
        due("v -1", x.one(0, -1, 1, 1), OUTSIDE);
        due("w -1", x.one(0, 1, 1, -1), OUTSIDE);
        due("v 10000", x.one(0, 10000, 1, 1), OUTSIDE);
        due("w 10000", x.one(0, 1, 1, 10000), OUTSIDE);
        due("UNKNOWN first", x.one(1, -1, 1, 1), UNKNOWN);
        due("9999 of both", x.one(0, 9999, 1, 9999), 0);
    }

    private static void ask() {
        promise = "promise 21";
        GrowsByHalf x = new GrowsByHalf();
        due("nobody at all", x.ask(0), UNKNOWN);
        x.person(DOCTOR);
        due("nobody else", x.ask(0), NONE);
        x.person(TELLER);
        x.person(TELLER);
        due("not told, all alike: the least", x.ask(0), 1);
        Texts.week(x, "02,21");
        due("half of 1 and 2 is more alike than what grows of it", x.ask(0), 1);
        due("of 1: nobody is told", x.ask(1), 0);
        due("of 2: told and not told", x.ask(2), 1);
        Texts.week(x, "02");
        due("who is told at all", x.ask(0), 2);
        due("who is asked for is not told", x.ask(2), 0);
        due("3", x.ask(3), UNKNOWN);
        due("-1", x.ask(-1), UNKNOWN);
    }

    private static void askOfLikeOnes() {
        GrowsByHalf x = Texts.valley("02,03,10,12", TELLER, DOCTOR, TELLER, TELLER);
        due("of like ones the least", x.ask(0), 2);
        due("what is not told at all is 99 alike", x.ask(1), 0);
        Texts.law(x, "d");
        Texts.week(x, "31,12");
        due("all unlike at the first one", x.ask(3), 1);
        Texts.week(x, "30,02,23,31");
        due("three that have all unlike", x.ask(3), 0);
        GrowsByHalf y = Texts.valley("10,02", TELLER, TELLER, TELLER);
        Texts.law(y, "dddd");
        y.see(0, 0, 5);
        due("who is told by 1, not who is told by him", y.ask(1), 0);
        Texts.law(y, "/9");
        Texts.week(y, "12,20");
        due("nine alike are fewer than what comes of them", y.ask(1), 2);
        Texts.week(y, "10,02,21");
        due("the first one", y.ask(1), 0);
        GrowsByHalf zero = Texts.valley("01,02", TELLER, TELLER, TELLER);
        Texts.law(zero, "/2");
        due("1 to 99: one is 0, all others two", zero.ask(0), 1);
        GrowsByHalf capped = Texts.valley("32,21,10", BRAGGART, BRAGGART, DOCTOR, TELLER);
        Texts.law(capped, "dddd");
        due("not who has it as 9999 mostly", capped.ask(3), 1);
    }

    /** In each of these one size more or fewer at an end would name another one. */
    private static void askFromOneToNinetyNine() {
        GrowsByHalf x = Texts.valley("12,02,20", BRAGGART, DOCTOR, MODEST);
        Texts.law(x, "-9/6");
        due("98 alike at 2, by 99 it has 1; 99 at 1, who is not told", x.ask(0), 2);
        GrowsByHalf y = Texts.valley("01,21", MODEST, MODEST, BRAGGART);
        Texts.law(y, "/5-5d");
        due("99 alike at both, by 100 it would have 2", y.ask(2), 0);
        GrowsByHalf z = Texts.valley("21,10,01", BRAGGART, TELLER, TELLER);
        Texts.law(z, "-1");
        due("0 has 1 and 2 alike", z.ask(2), 1);
        GrowsByHalf v = Texts.valley("21,01,10", TELLER, DOCTOR, BRAGGART);
        Texts.law(v, "-1+2");
        due("1 would have 0 and 1 alike, but 0 does not count", v.ask(2), 1);
    }

    private static void chain() {
        promise = "promise 22";
        GrowsByHalf x = Texts.valley("", TELLER, MODEST, MODEST, DOCTOR, BRAGGART);
        due("nobody knows anybody", x.chain(0, 10, 1, 15, 0), NONE);
        due("it is so", x.chain(0, 10, 0, 10, 0), 0);
        due("to nobody", x.chain(0, 10, 0, 10, 1), NONE);
        x.knows(0, 1, true);
        x.knows(0, 2, true);
        x.knows(1, 3, true);
        x.knows(2, 3, true);
        x.knows(3, 4, true);
        x.knows(4, 0, true);
        due("one telling", x.chain(0, 10, 1, 15, 0), 1);
        due("to him first", x.chain(0, 10, 2, 15, 1), 2);
        due("not of that size", x.chain(0, 10, 1, 16, 0), NONE);
        due("to nobody", x.chain(0, 10, 1, 16, 1), NONE);
        due("two tellings", x.chain(0, 10, 3, 15, 0), 2);
        due("of like ones the least", x.chain(0, 10, 3, 15, 1), 1);
        due("knows: one way, so it goes round by 3 and 4", x.chain(1, 10, 0, 10, 0), 3);
        due("round to oneself", x.chain(0, 10, 0, 15, 0), 4);
        x.knows(0, 1, false);
        due("by who is known yet", x.chain(0, 10, 3, 15, 1), 2);
        Texts.week(x, "01,12,23,34");
        x.see(0, 0, 500);
        due("what one had ahead does not matter", x.chain(0, 10, 3, 15, 0), 2);
        due("from nobody", x.chain(5, 10, 3, 15, 0), UNKNOWN);
        due("from -1", x.chain(-1, 10, 3, 15, 0), UNKNOWN);
        due("to nobody", x.chain(0, 10, 5, 15, 0), UNKNOWN);
        due("size -1", x.chain(0, -1, 3, 15, 0), OUTSIDE);
        due("size 10000", x.chain(0, 10000, 3, 15, 0), OUTSIDE);
        due("wanted -1", x.chain(0, 10, 3, -1, 0), OUTSIDE);
        due("wanted 10000", x.chain(0, 10, 3, 10000, 0), OUTSIDE);
        due("what -1", x.chain(0, 10, 3, 15, -1), OUTSIDE);
        due("what 2", x.chain(0, 10, 3, 15, 2), OUTSIDE);
        due("UNKNOWN first", x.chain(0, -1, 5, 15, 2), UNKNOWN);
        due("done, refused ones not told", x.count(7), 13);
    }

    private static void chainOfTwenty() {
        GrowsByHalf x = Texts.valley("", TELLER, TELLER);
        Texts.law(x, "+1");
        Texts.ring(x, 2);
        due("twenty", x.chain(0, 0, 0, 20, 0), 20);
        due("to whom first", x.chain(0, 0, 0, 20, 1), 1);
        due("twenty-one are too many", x.chain(0, 0, 1, 21, 0), NONE);
        due("to nobody", x.chain(0, 0, 1, 21, 1), NONE);
        due("nineteen", x.chain(0, 0, 1, 19, 0), 19);
        GrowsByHalf y = Texts.valley("", TELLER, MODEST, TELLER, MODEST);
        y.knows(0, 3, true);
        y.knows(0, 2, true);
        y.knows(3, 1, true);
        y.knows(2, 3, true);
        y.knows(2, 1, true);
        due("fewer ahead of the least", y.chain(0, 4, 1, 6, 0), 2);
        due("by 3, as it grows at 2", y.chain(0, 4, 1, 6, 1), 3);
        due("by 2", y.chain(0, 4, 1, 9, 1), 2);
    }

    private static void chainThirtyTimes() {
        GrowsByHalf x = Texts.valley("", TELLER, TELLER);
        x.knows(0, 1, true);
        x.image();
        for (int time = 0; time < 30; time++) {
            due("chain " + time, x.chain(0, 4, 1, time % 2 == 0 ? 6 : 7, 0), time % 2 == 0 ? 1 : NONE);
            due("refused ones are not told", x.chain(0, 4, 1, 6, 2), OUTSIDE);
        }
        due("the 31st", x.chain(0, 4, 1, 6, 0), STATE);
        due("OUTSIDE first", x.chain(0, 4, 1, 6, 2), OUTSIDE);
        due("UNKNOWN first", x.chain(2, 4, 1, 6, 0), UNKNOWN);
        due("thirty", x.count(7), 30);
        x.restore();
        Texts.law(x, "d");
        Texts.week(x, "01");
        due("it counts on", x.chain(0, 4, 1, 8, 0), STATE);
    }

    private static void chance() {
        promise = "promise 23";
        GrowsByHalf x = new GrowsByHalf();
        chanceDue(x, 1, 0, 10, 15, 1, 1);
        chanceDue(x, 1, 10, 10, 15, 0, 1);
        chanceDue(x, 1, 10, 10, 10, 1, 1);
        chanceDue(x, 1, 3, 10, 15, 7, 10);
        chanceDue(x, 1, 4, 10, 15, 3, 5);
        chanceDue(x, 2, 5, 10, 15, 1, 2);
        chanceDue(x, 2, 5, 10, 22, 1, 4);
        chanceDue(x, 2, 5, 10, 23, 0, 1);
        chanceDue(x, 9, 9, 10, 10, 387420489L, 1000000000L);
        chanceDue(x, 9, 1, 10, 10, 1, 1000000000L);
        chanceDue(x, 9, 9, 10, 15, 387420489L, 1000000000L);
        chanceDue(x, 9, 3, 0, 0, 1, 1);
        chanceDue(x, 3, 5, 9999, 9999, 1, 1);
        chanceDue(x, 3, 5, 9999, 0, 0, 1);
        due("tellers 0", x.chance(0, 5, 10, 10, 0), OUTSIDE);
        due("tellers 10", x.chance(10, 5, 10, 10, 0), OUTSIDE);
        due("tenths -1", x.chance(1, -1, 10, 10, 0), OUTSIDE);
        due("tenths 11", x.chance(1, 11, 10, 10, 0), OUTSIDE);
        due("first -1", x.chance(1, 5, -1, 10, 0), OUTSIDE);
        due("first 10000", x.chance(1, 5, 10000, 10, 0), OUTSIDE);
        due("size -1", x.chance(1, 5, 10, -1, 0), OUTSIDE);
        due("size 10000", x.chance(1, 5, 10, 10000, 0), OUTSIDE);
        due("part -1", x.chance(1, 5, 10, 10, -1), OUTSIDE);
        due("part 2", x.chance(1, 5, 10, 10, 2), OUTSIDE);
        Texts.law(x, "-9");
        chanceDue(x, 3, 5, 10, 0, 1, 2);
        chanceDue(x, 3, 5, 10, 1, 3, 8);
    }

    private static void chanceDue(GrowsByHalf x, int tellers, int tenths, int first, int size, long above, long below) {
        String call = tellers + " tellers, " + tenths + " tenths, " + first + " to " + size;
        due(call + ": above", x.chance(tellers, tenths, first, size, 0), above);
        due(call + ": below", x.chance(tellers, tenths, first, size, 1), below);
    }

    private static void likeliest() {
        promise = "promise 24";
        GrowsByHalf x = new GrowsByHalf();
        due("all grow it", x.likeliest(1, 0, 15), 10);
        due("none grows it", x.likeliest(1, 10, 15), 15);
        due("likelier by growing", x.likeliest(1, 4, 15), 10);
        due("likelier as it is", x.likeliest(1, 6, 15), 15);
        due("of like ones the least", x.likeliest(1, 5, 15), 10);
        due("1 is 1", x.likeliest(9, 3, 1), 1);
        due("0 comes of none", x.likeliest(1, 5, 0), NONE);
        due("none comes to 2 by half of it", x.likeliest(1, 0, 2), NONE);
        due("99", x.likeliest(1, 0, 148), 99);
        due("100 is too big", x.likeliest(1, 0, 150), NONE);
        due("9999", x.likeliest(1, 0, 9999), NONE);
        Texts.law(x, "/9");
        due("of nine like ones the least", x.likeliest(1, 0, 3), 27);
        due("tellers 0", x.likeliest(0, 5, 3), OUTSIDE);
        due("tellers 10", x.likeliest(10, 5, 3), OUTSIDE);
        due("tenths -1", x.likeliest(1, -1, 3), OUTSIDE);
        due("tenths 11", x.likeliest(1, 11, 3), OUTSIDE);
        due("size -1", x.likeliest(1, 5, -1), OUTSIDE);
        due("size 10000", x.likeliest(1, 5, 10000), OUTSIDE);
    }

    private static void gossip() {
        promise = "promise 25";
        GrowsByHalf x = Texts.valley("01,10,01,10", TELLER);
        due("one person", x.gossip(1, 1, 0), STATE);
        due("OUTSIDE first", x.gossip(0, 1, 0), OUTSIDE);
        x.person(TELLER);
        due("none has it", x.gossip(5, 1, 0), 0);
        due("none is the biggest", x.gossip(5, 1, 1), NONE);
        due("times 0", x.gossip(0, 1, 0), OUTSIDE);
        due("times 61", x.gossip(61, 1, 0), OUTSIDE);
        due("seed -1", x.gossip(1, -1, 0), OUTSIDE);
        due("the least seed", x.gossip(1, MIN, 0), OUTSIDE);
        due("what -1", x.gossip(1, 1, -1), OUTSIDE);
        due("what 3", x.gossip(1, 1, 3), OUTSIDE);
        x.see(1, 0, 10);
        due("only tale 0 is told of", x.gossip(60, 1, 0), 0);
    }

    /** From seed 1 on the draws' seeds are 1103527590, 377401575, 662824084, 1147902781. */
    private static void gossipByHand() {
        GrowsByHalf x = Texts.valley("01,10,01,10", TELLER, TELLER);
        due("two draws", x.gossip(1, 1, 2), 377401575);
        due("four draws", x.gossip(2, 1, 2), 1147902781);
        due("from seed 0", x.gossip(1, 0, 2), 1406932606);
        x.see(0, 0, 10);
        // 1103527590 by 65536 is 16838: of two people 0 tells, there is one other.
        due("0 has told 1", x.gossip(1, 1, 0), 2);
        due("bigger by half", x.gossip(1, 1, 1), 15);
        x.see(0, 1, 10);
        due("0 had nothing to tell", x.gossip(1, 1, 0), 1);
        due("in the place of the week", x.gossip(1, 1, 1), 10);
        GrowsByHalf y = Texts.valley("", DOCTOR, TELLER, BRAGGART);
        y.see(0, 2, 10);
        // 16838 of three: 2; 377401575 by 65536 is 5758, of two: 0, the first of the others: 0.
        due("2 has told 0", y.gossip(1, 1, 0), 2);
        due("twice the law", y.gossip(1, 1, 1), 22);
        // 662824084 by 65536 is 10113, of three: 0; 1147902781 by 65536 is 17515, of two: 1, that is 2.
        due("0 has told 2 half of 22", y.gossip(2, 1, 1), 22);
        due("two yet", y.gossip(2, 1, 0), 2);
    }

    private static void image() {
        promise = "promise 26";
        GrowsByHalf x = new GrowsByHalf();
        due("of nobody", x.image(), 0);
        x.person(TELLER);
        x.person(DOCTOR);
        due("none is there again", x.restore(), 0);
        due("nobody", x.kind(0), UNKNOWN);
        x.person(BRAGGART);
        due("one", x.image(), 1);
        x.person(TELLER);
        due("two: the latest", x.image(), 2);
        due("two", x.restore(), 2);
    }

    private static void restore() {
        promise = "promise 27";
        GrowsByHalf x = Texts.valley("01", TELLER, MODEST);
        due("none was kept", x.restore(), STATE);
        x.knows(0, 1, true);
        x.see(0, 0, 10);
        x.see(1, 1, 20);
        x.image();
        x.person(BRAGGART);
        x.knows(0, 1, false);
        x.knows(1, 0, true);
        x.knows(0, 2, true);
        x.knows(2, 0, true);
        x.see(0, 2, 30);
        x.see(1, 1, 40);
        x.see(2, 0, 50);
        Texts.law(x, "d");
        Texts.week(x, "10,01");
        Texts.write(x, "page");
        x.chain(0, 1, 2, 2, 0);
        due("two people", x.restore(), 2);
        due("who came since is gone", x.kind(2), UNKNOWN);
        due("whom it knew", x.knows(0, 1, true), 1);
        due("whom it did not", x.knows(1, 0, false), 0);
        due("its witness", x.see(0, 0, 10), 0);
        due("its witness has it bigger from 0", x.size(1, 1), 40);
        due("so big it is told", x.size(0, 1), 20);
        due("not seen", x.drop(2), NONE);
        due("the law stays", x.grown(7), 14);
        due("the week stays", x.telling(1, 1), 1);
        due("the page stays", x.count(4), 4);
        due("read stays", x.count(5), 1);
        due("chains stay", x.count(7), 1);
        due("another kind takes the number", x.person(DOCTOR), 2);
        due("its kind", x.kind(2), DOCTOR);
        due("it is not known", x.knows(0, 2, false), 0);
        due("it knows nobody", x.knows(2, 0, false), 0);
        x.knows(0, 1, false);
        x.drop(0);
        due("again, from the same image", x.restore(), 2);
        due("whom it knew, again", x.knows(0, 1, false), 1);
        due("its witness, again", x.drop(0), 0);
    }

    private static void count() {
        promise = "promise 28";
        GrowsByHalf x = Texts.valley("01,12,20", TELLER, TELLER, TELLER, TELLER);
        Texts.law(x, "h");
        Texts.law(x, "hd");
        x.see(0, 0, 1);
        x.see(0, 1, 1);
        x.see(3, 0, 0);
        x.chain(0, 1, 1, 1, 0);
        Texts.write(x, "hallo");
        int[] due = {4, 2, 3, 2, 5, 2, 1, 1};
        for (int what = 0; what < due.length; what++) {
            due("count(" + what + ")", x.count(what), due[what]);
        }
        x.drop(0);
        due("one tale is left", x.count(3), 1);
        due("-1", x.count(-1), OUTSIDE);
        due("8", x.count(8), OUTSIDE);
    }

    private static void digest() {
        promise = "promise 29";
        GrowsByHalf x = Texts.valley("01,10", TELLER, DOCTOR);
        x.see(0, 0, 4);
        Texts.write(x, "h~");
        long[] numbers = {
            1, 15, 150, 1500,
            0, 1, 1, 0,
            0, 15, 4, NONE, NONE, NONE, NONE, NONE, NONE, NONE,
            2, 5, 6, 0, NONE, NONE, NONE, NONE, NONE, NONE,
            1, 1, 0,
            20,
            104, 126,
            2, 1, 2, 1, 2, 0, 1, 0};
        due("1 had 4: seen by 0 as 3", x.one(0, 3, 1, 4), 1);
        long h = 631;
        for (long number : numbers) {
            h = 31 * h + number;
        }
        due("all of it", x.digest(), h);
        due("it changes nothing", x.digest(), h);
        x.blank();
        Check.isTrue("promise 29: another page, another digest", x.digest() != h);
    }

    private static void digestOfNobody() {
        GrowsByHalf x = new GrowsByHalf();
        long[] numbers = {1, 15, 150, 1500, 20, 0, 1, 0, 0, 0, 0, 0, 0};
        long h = 631;
        for (long number : numbers) {
            h = 31 * h + number;
        }
        due("of nobody: one() is not asked", x.digest(), h);
    }

    private static void refusalsChangeNothing() {
        promise = "refusals";
        GrowsByHalf x = Texts.valley(SIXTEEN, TELLER, MODEST, DOCTOR, BRAGGART, TELLER, TELLER, TELLER, TELLER);
        Texts.ring(x, 8);
        x.see(0, 0, 7);
        Texts.write(x, "01,12,23,34,45,56,67,70,01,12,23,34,45,56,67,70,x");
        long before = x.digest();
        int[] wrong = {MIN, -1, 8, 10000, MAX};
        for (int n : wrong) {
            x.letters(-1L);
            x.letters(0x414141L);
            x.fault(n);
            x.law();
            x.week();
            x.grown(n == 8 ? -1 : n);
            x.telling(n == 8 ? 16 : n, 0);
            x.person(n);
            x.person(0);
            x.kind(n);
            x.as(n, n);
            x.tells(n, n);
            x.knows(n, 0, true);
            x.knows(0, n, true);
            x.see(n, 0, 5);
            x.see(0, n, 5);
            x.see(0, 0, n == 8 ? -1 : n);
            x.drop(n);
            x.size(n, n);
            x.from(n, n);
            x.firsts(0, 0, 5, n);
            x.modest(n, n, n);
            x.one(n, n, n, n);
            x.ask(n);
            x.chain(0, 5, 0, 5, n);
            x.chance(5, 5, 5, 5, n);
            x.likeliest(n == 8 ? 0 : n, 5, 5);
            x.gossip(5, 5, n);
            x.restore();
            x.count(n);
        }
        due("the digest", x.digest(), before);
    }
}
