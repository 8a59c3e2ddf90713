/** The sentences of the document that name a boundary of people, their kinds and whom they know. */
final class EdgesOfPeople {
    private static final int NONE = -1, UNKNOWN = -101, OUTSIDE = -102, FULL = -104;
    private static final int TELLER = 0, MODEST = 1, DOCTOR = 2, BRAGGART = 3;
    private static final int MIN = Integer.MIN_VALUE, MAX = Integer.MAX_VALUE;

    private EdgesOfPeople() {
    }

    static void run() {
        eightAtMost();
        kindsZeroToThree();
        kindOfEach();
        such();
        ownNumber();
        asRefused();
        tellersTell();
        modestTell();
        doctorsTell();
        braggartsTell();
        tellsRefused();
        knowsOrNot();
        oneWay();
        knowsRefused();
    }

    private static void eightAtMost() {
        Check.sentence("PEOPLE (8 at most, numbered); FULL");
        GrowsByHalf x = new GrowsByHalf();
        for (int number = 0; number < 8; number++) {
            Check.due("person " + number, x.person(TELLER), number);
            Check.due("count(0)", x.count(0), number + 1);
        }
        for (int kind = 0; kind < 4; kind++) {
            Check.due("a ninth one of kind " + kind, x.person(kind), FULL);
        }
        Check.due("OUTSIDE ahead of FULL", x.person(4), OUTSIDE);
        Check.due("OUTSIDE ahead of FULL", x.person(-1), OUTSIDE);
        Check.due("count(0)", x.count(0), 8);
        Check.due("kind(7)", x.kind(7), TELLER);
        Check.due("kind(8)", x.kind(8), UNKNOWN);
    }

    private static void kindsZeroToThree() {
        Check.sentence("KINDS: 0 TELLER, 1 MODEST, 2 DOCTOR, 3 BRAGGART");
        GrowsByHalf x = new GrowsByHalf();
        for (int none : new int[] {MIN, -1, 4, 5, MAX}) {
            Check.due("person(" + none + ")", x.person(none), OUTSIDE);
            Check.due("count(0)", x.count(0), 0);
        }
        Check.due("person(3)", x.person(BRAGGART), 0);
        Check.due("person(0)", x.person(TELLER), 1);
        Check.due("person(4)", x.person(4), OUTSIDE);
        Check.due("a refused one takes no number", x.person(DOCTOR), 2);
        Check.due("person(1)", x.person(MODEST), 3);
        Check.due("kind(2)", x.kind(2), DOCTOR);
    }

    private static void kindOfEach() {
        Check.sentence("The KIND of a PERSON. UNKNOWN");
        GrowsByHalf x = new GrowsByHalf();
        Check.due("kind(0) of nobody", x.kind(0), UNKNOWN);
        int[] kinds = {BRAGGART, DOCTOR, MODEST, TELLER, MODEST, DOCTOR, TELLER, BRAGGART};
        for (int number = 0; number < 8; number++) {
            Check.due("kind(" + number + ") ahead", x.kind(number), UNKNOWN);
            x.person(kinds[number]);
            Check.due("kind(" + number + ")", x.kind(number), kinds[number]);
        }
        for (int number = 0; number < 8; number++) {
            Check.due("kind(" + number + ") yet", x.kind(number), kinds[number]);
        }
        for (int none : new int[] {MIN, -1, 8, 9, MAX}) {
            Check.due("kind(" + none + ")", x.kind(none), UNKNOWN);
        }
    }

    private static void such() {
        Check.sentence("All are TELLERS; a DOCTOR is MODEST, too");
        GrowsByHalf x = Texts.valley("", TELLER, MODEST, DOCTOR, BRAGGART);
        boolean[][] due = {
            {true, false, false, false},
            {true, true, false, false},
            {true, true, true, false},
            {true, false, false, true}};
        for (int person = 0; person < 4; person++) {
            for (int kind = 0; kind < 4; kind++) {
                Check.due("as(" + person + ", " + kind + ")", x.as(person, kind), due[person][kind] ? person : NONE);
            }
        }
    }

    private static void ownNumber() {
        Check.sentence("its own number (not that of the KIND); NONE: it is none such (the cast fails)");
        GrowsByHalf x = Texts.valley("", DOCTOR, BRAGGART, TELLER, TELLER, MODEST, DOCTOR, TELLER, BRAGGART);
        Check.due("as(0, MODEST)", x.as(0, MODEST), 0);
        Check.due("as(0, DOCTOR)", x.as(0, DOCTOR), 0);
        Check.due("as(5, MODEST)", x.as(5, MODEST), 5);
        Check.due("as(5, TELLER)", x.as(5, TELLER), 5);
        Check.due("as(7, BRAGGART)", x.as(7, BRAGGART), 7);
        Check.due("as(7, MODEST)", x.as(7, MODEST), NONE);
        Check.due("as(4, DOCTOR)", x.as(4, DOCTOR), NONE);
        Check.due("as(1, DOCTOR)", x.as(1, DOCTOR), NONE);
        Check.due("its kind stays", x.kind(5), DOCTOR);
    }

    private static void asRefused() {
        Check.sentence("as: UNKNOWN; OUTSIDE");
        GrowsByHalf x = Texts.valley("", TELLER, TELLER);
        for (int none : new int[] {MIN, -1, 2, 8, MAX}) {
            Check.due("as(" + none + ", 0)", x.as(none, 0), UNKNOWN);
            Check.due("UNKNOWN ahead of OUTSIDE", x.as(none, 4), UNKNOWN);
        }
        for (int none : new int[] {MIN, -1, 4, MAX}) {
            Check.due("as(1, " + none + ")", x.as(1, none), OUTSIDE);
        }
        Check.due("as(1, 0)", x.as(1, 0), 1);
        Check.due("as(1, 3)", x.as(1, 3), NONE);
    }

    /** Pairs: a size, and how big one of the kind tells it by the law. */
    private static void tells(int kind, String law, int... pairs) {
        GrowsByHalf x = Texts.valley("", kind);
        if (!law.isEmpty()) {
            Texts.law(x, law);
        }
        for (int at = 0; at + 1 < pairs.length; at += 2) {
            Check.due("by " + law + " tells(0, " + pairs[at] + ")", x.tells(0, pairs[at]), pairs[at + 1]);
        }
    }

    private static void tellersTell() {
        Check.sentence("Who has a tale of SIZE x TELLS it as THE LAW makes x");
        tells(TELLER, "", 0, 0, 1, 1, 2, 3, 9, 13, 6666, 9999, 6667, 9999, 9999, 9999);
        tells(TELLER, "-1", 0, 0, 1, 0, 2, 1, 9999, 9998);
        tells(TELLER, "+1", 0, 1, 9998, 9999, 9999, 9999);
        tells(TELLER, "d-1", 5000, 9998);
    }

    private static void modestTell() {
        Check.sentence("a MODEST as x");
        tells(MODEST, "", 0, 0, 1, 1, 2, 2, 9, 9, 9999, 9999);
        tells(MODEST, "-1", 0, 0, 1, 1, 9999, 9999);
        tells(MODEST, "+1", 0, 0, 9999, 9999);
    }

    private static void doctorsTell() {
        Check.sentence("a DOCTOR as half of x (rounded down)");
        tells(DOCTOR, "", 0, 0, 1, 0, 2, 1, 3, 1, 4, 2, 5, 2, 9998, 4999, 9999, 4999);
        tells(DOCTOR, "d", 1, 0, 5, 2);
        tells(DOCTOR, "+9", 0, 0, 1, 0, 9999, 4999);
    }

    private static void braggartsTell() {
        Check.sentence("a BRAGGART as THE LAW makes what THE LAW makes x");
        tells(BRAGGART, "", 0, 0, 1, 1, 2, 4, 3, 6, 5, 10, 4444, 9999, 4443, 9996, 9999, 9999);
        tells(BRAGGART, "-9", 0, 0, 9, 0, 17, 0, 18, 0, 19, 1, 9999, 9981);
        tells(BRAGGART, "d-1", 2, 5, 5000, 9998, 2501, 9998, 2500, 9997);
        tells(BRAGGART, "/2+1", 0, 1, 1, 1, 2, 2, 7, 3, 9999, 2501);
    }

    private static void tellsRefused() {
        Check.sentence("tells: UNKNOWN; OUTSIDE: size");
        GrowsByHalf x = new GrowsByHalf();
        Check.due("tells(0, 0) of nobody", x.tells(0, 0), UNKNOWN);
        for (int kind = 0; kind < 4; kind++) {
            x.person(kind);
            Check.due("size -1", x.tells(kind, -1), OUTSIDE);
            Check.due("size 10000", x.tells(kind, 10000), OUTSIDE);
            Check.due("the least", x.tells(kind, MIN), OUTSIDE);
            Check.due("the greatest", x.tells(kind, MAX), OUTSIDE);
        }
        for (int none : new int[] {MIN, -1, 4, 8, MAX}) {
            Check.due("tells(" + none + ", 9999)", x.tells(none, 9999), UNKNOWN);
            Check.due("UNKNOWN ahead of OUTSIDE", x.tells(none, 10000), UNKNOWN);
        }
    }

    private static void knowsOrNot() {
        Check.sentence("One KNOWS another one, or not: whether it did (1, 0)");
        GrowsByHalf x = Texts.valley("", 0, 0, 0, 0, 0, 0, 0, 0);
        for (int pair = 0; pair < 64; pair++) {
            if (pair / 8 != pair % 8) {
                String call = "knows(" + pair / 8 + ", " + pair % 8;
                Check.due(call + ", false)", x.knows(pair / 8, pair % 8, false), 0);
                Check.due(call + ", true)", x.knows(pair / 8, pair % 8, true), 0);
                Check.due(call + ", true) again", x.knows(pair / 8, pair % 8, true), 1);
            }
        }
        for (int pair = 0; pair < 64; pair++) {
            if (pair / 8 != pair % 8) {
                String call = "knows(" + pair / 8 + ", " + pair % 8;
                Check.due(call + ", false) then", x.knows(pair / 8, pair % 8, false), 1);
                Check.due(call + ", false) again", x.knows(pair / 8, pair % 8, false), 0);
            }
        }
    }

    private static void oneWay() {
        Check.sentence("KNOWS: whom each would tell (one way)");
        for (int pair = 0; pair < 64; pair++) {
            int a = pair / 8;
            int b = pair % 8;
            if (a != b) {
                GrowsByHalf x = Texts.valley("", 1, 1, 1, 1, 1, 1, 1, 1);
                x.knows(a, b, true);
                Check.due("the other way", x.knows(b, a, false), 0);
                Check.due("by " + a + " to " + b, x.chain(a, 5, b, 5, 0), 1);
                Check.due("not by " + b + " to " + a, x.chain(b, 5, a, 5, 0), NONE);
            }
        }
    }

    private static void knowsRefused() {
        Check.sentence("UNKNOWN: a, b, or they are the same");
        GrowsByHalf x = Texts.valley("", 0, 0, 0);
        for (int one = 0; one < 3; one++) {
            Check.due("the same", x.knows(one, one, true), UNKNOWN);
            Check.due("the same, not", x.knows(one, one, false), UNKNOWN);
            for (int none : new int[] {MIN, -1, 3, 8, 32, MAX}) {
                Check.due("knows(" + one + ", " + none + ")", x.knows(one, none, true), UNKNOWN);
                Check.due("knows(" + none + ", " + one + ")", x.knows(none, one, true), UNKNOWN);
                Check.due("both", x.knows(none, none, true), UNKNOWN);
            }
        }
        Check.due("who came since", x.person(TELLER), 3);
        for (int one = 0; one < 3; one++) {
            Check.due("is not known by " + one, x.knows(one, 3, false), 0);
            Check.due("and does not know " + one, x.knows(3, one, false), 0);
        }
        GrowsByHalf alone = Texts.valley("", 0);
        Check.due("nobody else", alone.knows(0, 1, true), UNKNOWN);
        Check.due("oneself", alone.knows(0, 0, true), UNKNOWN);
    }
}
