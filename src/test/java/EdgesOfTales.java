/** The sentences of the document that name a boundary of tales, of who has seen them and of the week's tellings. */
final class EdgesOfTales {
    private static final int NONE = -1, UNKNOWN = -101, OUTSIDE = -102;
    private static final int TELLER = 0, MODEST = 1, DOCTOR = 2, BRAGGART = 3;
    private static final int MIN = Integer.MIN_VALUE, MAX = Integer.MAX_VALUE;

    private EdgesOfTales() {
    }

    static void run() {
        talesZeroToThree();
        witnessSoFar();
        byNobodyElseThen();
        seeRefused();
        dropped();
        emptyWeek();
        justWitnesses();
        onceEachTime();
        ifBothAreThere();
        allTales();
        doesNotHave();
        biggerOnly();
        capped();
        fromTheOneThen();
        seenItSo();
        fromAlone();
        sixteenOfThem();
        sizeAndFromRefused();
    }

    private static void has(GrowsByHalf x, int person, int tale, int size, int from) {
        Check.due("size(" + person + ", " + tale + ")", x.size(person, tale), size);
        Check.due("from(" + person + ", " + tale + ")", x.from(person, tale), from);
    }

    private static void talesZeroToThree() {
        Check.sentence("TALES are 0 to 3");
        GrowsByHalf x = Texts.valley("", 0, 0);
        for (int tale = 0; tale < 4; tale++) {
            Check.due("see(" + tale + ")", x.see(tale, tale % 2, 10 * tale), NONE);
            Check.due("count(3)", x.count(3), tale + 1);
        }
        for (int tale = 0; tale < 4; tale++) {
            has(x, tale % 2, tale, 10 * tale, NONE);
            has(x, 1 - tale % 2, tale, NONE, NONE);
        }
        for (int none : new int[] {MIN, -1, 4, 5, MAX}) {
            Check.due("see(" + none + ")", x.see(none, 0, 5), UNKNOWN);
            Check.due("drop(" + none + ")", x.drop(none), UNKNOWN);
            Check.due("size of " + none, x.size(0, none), UNKNOWN);
            Check.due("from of " + none, x.from(0, none), UNKNOWN);
            Check.due("firsts of " + none, x.firsts(none, 0, 5, 0), UNKNOWN);
            Check.due("modest of " + none, x.modest(none, 0, 5), UNKNOWN);
        }
        Check.due("count(3)", x.count(3), 4);
    }

    private static void witnessSoFar() {
        Check.sentence("A TALE was SEEN by a PERSON so big: its WITNESS so far (NONE)");
        GrowsByHalf x = Texts.valley("", 0, 0, 0, 0, 0, 0, 0, 0);
        Check.due("by nobody so far", x.see(1, 7, 0), NONE);
        Check.due("by 7 so far", x.see(1, 0, 9999), 7);
        Check.due("by 0 so far", x.see(1, 0, 1), 0);
        Check.due("by 0 again", x.see(1, 7, 1), 0);
        Check.due("another one: by nobody so far", x.see(2, 3, 1), NONE);
        Check.due("by 7", x.drop(1), 7);
        Check.due("by nobody again", x.see(1, 2, 5), NONE);
    }

    private static void byNobodyElseThen() {
        Check.sentence("by nobody else then");
        GrowsByHalf x = Texts.valley("", 0, 0);
        x.see(0, 0, 100);
        x.see(0, 1, 5);
        has(x, 0, 0, NONE, NONE);
        has(x, 1, 0, 5, NONE);
        Check.due("one tale", x.count(3), 1);
        x.see(0, 1, 4);
        has(x, 1, 0, 4, NONE);
        x.see(1, 0, 7);
        has(x, 1, 0, 4, NONE);
        Check.due("gossip knows him alone", x.gossip(1, 1, 0), 1);
    }

    private static void seeRefused() {
        Check.sentence("see: UNKNOWN: tale, person; OUTSIDE: size");
        GrowsByHalf x = new GrowsByHalf();
        Check.due("by nobody at all", x.see(0, 0, 5), UNKNOWN);
        x.person(TELLER);
        x.person(TELLER);
        x.see(0, 1, 9);
        for (int none : new int[] {MIN, -1, 2, 8, MAX}) {
            Check.due("person " + none, x.see(0, none, 5), UNKNOWN);
            Check.due("UNKNOWN ahead of OUTSIDE", x.see(0, none, 10000), UNKNOWN);
            Check.due("both UNKNOWN", x.see(4, none, 5), UNKNOWN);
        }
        for (int none : new int[] {MIN, -1, 10000, 10001, MAX}) {
            Check.due("size " + none, x.see(0, 0, none), OUTSIDE);
            Check.due("UNKNOWN ahead of OUTSIDE", x.see(4, 0, none), UNKNOWN);
            Check.due("UNKNOWN ahead of OUTSIDE", x.see(-1, 0, none), UNKNOWN);
        }
        has(x, 1, 0, 9, NONE);
        Check.due("its witness stays", x.drop(0), 1);
    }

    private static void dropped() {
        Check.sentence("A TALE was SEEN by nobody: its WITNESS so far (NONE). UNKNOWN");
        GrowsByHalf x = Texts.valley("01", 0, 0);
        for (int tale = 0; tale < 4; tale++) {
            Check.due("not seen", x.drop(tale), NONE);
        }
        x.see(0, 0, 0);
        x.see(3, 1, 9999);
        Check.due("drop(0)", x.drop(0), 0);
        Check.due("drop(0) again", x.drop(0), NONE);
        has(x, 0, 0, NONE, NONE);
        has(x, 1, 0, NONE, NONE);
        has(x, 1, 3, 9999, NONE);
        Check.due("count(3)", x.count(3), 1);
        Check.due("drop(3)", x.drop(3), 1);
        Check.due("count(3)", x.count(3), 0);
    }

    private static void emptyWeek() {
        Check.sentence("an empty WEEK: how big a PERSON has a TALE behind it");
        GrowsByHalf x = Texts.valley("", BRAGGART, BRAGGART);
        has(x, 0, 0, NONE, NONE);
        x.see(0, 0, 50);
        has(x, 0, 0, 50, NONE);
        has(x, 1, 0, NONE, NONE);
    }

    private static void justWitnesses() {
        Check.sentence("In the beginning of it just WITNESSES have their TALES, as big as they were SEEN");
        GrowsByHalf x = Texts.valley("10,01", MODEST, TELLER, TELLER);
        x.see(0, 0, 10);
        has(x, 0, 0, 10, NONE);
        has(x, 1, 0, 10, 0);
        has(x, 2, 0, NONE, NONE);
        x.see(0, 1, 10);
        has(x, 0, 0, 15, 1);
        has(x, 1, 0, 15, 0);
        x.see(0, 2, 10);
        has(x, 0, 0, NONE, NONE);
        has(x, 1, 0, NONE, NONE);
    }

    private static void onceEachTime() {
        Check.sentence("behind THE WEEK, as often as it is asked");
        GrowsByHalf x = Texts.valley("01,10", TELLER, TELLER);
        x.see(0, 0, 10);
        for (int time = 0; time < 3; time++) {
            has(x, 0, 0, 22, 1);
            has(x, 1, 0, 15, 0);
            x.gossip(3, time, 0);
            x.ask(0);
            x.one(0, 3, 1, 3);
            x.firsts(0, 0, 5, 0);
            x.modest(0, 0, 5);
        }
    }

    private static void ifBothAreThere() {
        Check.sentence("A TELLING (if both PEOPLE are there)");
        GrowsByHalf x = Texts.valley("02,12,20,01", MODEST, TELLER);
        x.see(0, 0, 10);
        has(x, 1, 0, 10, 0);
        has(x, 0, 0, 10, NONE);
        Check.due("who is told, but not there", x.size(2, 0), UNKNOWN);
        x.image();
        Check.due("he comes", x.person(TELLER), 2);
        has(x, 2, 0, 10, 0);
        has(x, 0, 0, 15, 2);
        has(x, 1, 0, 15, 0);
        x.see(1, 2, 4);
        has(x, 0, 1, 6, 2);
        x.restore();
        has(x, 0, 0, 10, NONE);
        has(x, 1, 0, 10, 0);
        GrowsByHalf eight = Texts.valley("67,76", 0, 0, 0, 0, 0, 0, 0);
        eight.see(0, 6, 10);
        has(eight, 6, 0, 10, NONE);
        Check.due("the eighth comes", eight.person(TELLER), 7);
        has(eight, 7, 0, 15, 6);
        has(eight, 6, 0, 22, 7);
    }

    private static void allTales() {
        Check.sentence("all TALES that the one has, as he TELLS them");
        GrowsByHalf x = Texts.valley("01", BRAGGART, TELLER, TELLER);
        x.see(0, 0, 10);
        x.see(1, 0, 0);
        x.see(2, 2, 30);
        x.see(3, 0, 9999);
        has(x, 1, 0, 22, 0);
        has(x, 1, 1, 0, 0);
        has(x, 1, 2, NONE, NONE);
        has(x, 1, 3, 9999, 0);
        has(x, 0, 2, NONE, NONE);
        Texts.week(x, "20,01");
        has(x, 0, 2, 45, 2);
        has(x, 1, 2, 100, 0);
        has(x, 2, 0, NONE, NONE);
    }

    private static void doesNotHave() {
        Check.sentence("the other one takes each that he does not have");
        GrowsByHalf x = Texts.valley("01,12", DOCTOR, TELLER, TELLER);
        x.see(0, 0, 1);
        has(x, 1, 0, 0, 0);
        has(x, 2, 0, 0, 1);
        x.see(0, 0, 0);
        has(x, 1, 0, 0, 0);
        has(x, 2, 0, 0, 1);
        x.see(0, 1, 0);
        has(x, 0, 0, NONE, NONE);
        has(x, 1, 0, 0, NONE);
        has(x, 2, 0, 0, 1);
    }

    /** 1 has seen it; 0 has what 1 tells it of it and tells it again, smaller, alike or bigger by one. */
    private static void biggerOnly() {
        Check.sentence("or that is bigger than as he has it");
        GrowsByHalf x = Texts.valley("10,01", MODEST, MODEST);
        x.see(0, 1, 20);
        has(x, 1, 0, 20, NONE);
        GrowsByHalf smaller = Texts.valley("10,01", TELLER, MODEST);
        Texts.law(smaller, "-1");
        smaller.see(0, 1, 20);
        has(smaller, 0, 0, 20, 1);
        has(smaller, 1, 0, 20, NONE);
        GrowsByHalf bigger = Texts.valley("10,01", TELLER, MODEST);
        Texts.law(bigger, "+1");
        bigger.see(0, 1, 20);
        has(bigger, 0, 0, 20, 1);
        has(bigger, 1, 0, 21, 0);
        GrowsByHalf zero = Texts.valley("10,01", MODEST, MODEST);
        zero.see(0, 1, 0);
        has(zero, 1, 0, 0, NONE);
    }

    private static void capped() {
        Check.sentence("what is bigger is 9999: as big is not bigger");
        GrowsByHalf x = Texts.valley("01,10", TELLER, BRAGGART);
        x.see(0, 0, 9999);
        has(x, 1, 0, 9999, 0);
        has(x, 0, 0, 9999, NONE);
        x.see(0, 0, 9998);
        has(x, 1, 0, 9999, 0);
        has(x, 0, 0, 9999, 1);
    }

    private static void fromTheOneThen() {
        Check.sentence("from the one, then: from whom a PERSON has a TALE as it has it");
        GrowsByHalf x = Texts.valley("01,02,03,14,24,34", TELLER, MODEST, TELLER, MODEST, TELLER);
        x.see(0, 0, 10);
        has(x, 1, 0, 15, 0);
        has(x, 4, 0, 22, 2);
        Texts.week(x, "01,02,03,34,24,14");
        has(x, 4, 0, 22, 2);
        Texts.week(x, "01,02,03,14,34");
        has(x, 4, 0, 15, 1);
        Texts.week(x, "01,02,03,34,14");
        has(x, 4, 0, 15, 3);
        Texts.week(x, "01,02,03,34,14,04");
        has(x, 4, 0, 15, 3);
    }

    private static void seenItSo() {
        Check.sentence("NONE: it has SEEN it so, or does not have it");
        GrowsByHalf x = Texts.valley("01,10", TELLER, DOCTOR, TELLER);
        x.see(2, 0, 10);
        has(x, 0, 2, 10, NONE);
        has(x, 1, 2, 15, 0);
        has(x, 2, 2, NONE, NONE);
        GrowsByHalf y = Texts.valley("01,10", TELLER, TELLER);
        y.see(2, 0, 10);
        has(y, 0, 2, 22, 1);
        y.see(2, 0, 1);
        has(y, 0, 2, 1, NONE);
        y.see(2, 0, 2);
        has(y, 0, 2, 4, 1);
    }

    /** from() is asked without size() ahead of it, and behind another tale's. */
    private static void fromAlone() {
        Check.sentence("From whom a PERSON has a TALE as it has it behind THE WEEK");
        GrowsByHalf x = Texts.valley("01,12", TELLER, TELLER, TELLER);
        x.see(0, 0, 10);
        x.see(3, 1, 10);
        Check.due("from(2, 0)", x.from(2, 0), 1);
        Check.due("from(1, 0)", x.from(1, 0), 0);
        Check.due("from(1, 3)", x.from(1, 3), NONE);
        Check.due("from(1, 0)", x.from(1, 0), 0);
        Check.due("from(1, 2)", x.from(1, 2), NONE);
        x.drop(0);
        Check.due("from(1, 0)", x.from(1, 0), NONE);
    }

    private static void sixteenOfThem() {
        Check.sentence("one to sixteen TELLINGS, each of them told");
        GrowsByHalf x = Texts.valley("01,12,23,34,45,56,67,70,01,12,23,34,45,56,67,70", 0, 0, 0, 0, 0, 0, 0, 0);
        Texts.law(x, "+1");
        x.see(0, 0, 0);
        has(x, 0, 0, 16, 7);
        for (int person = 1; person < 8; person++) {
            has(x, person, 0, 8 + person, person - 1);
        }
        Texts.week(x, "01,12,23,34,45,56,67,70,01,12,23,34,45,56,67");
        has(x, 0, 0, 8, 7);
        has(x, 7, 0, 15, 6);
        Texts.week(x, "70");
        has(x, 7, 0, NONE, NONE);
        has(x, 0, 0, 0, NONE);
    }

    private static void sizeAndFromRefused() {
        Check.sentence("size, from: UNKNOWN: person, tale");
        GrowsByHalf x = new GrowsByHalf();
        Check.due("size(0, 0) of nobody", x.size(0, 0), UNKNOWN);
        Check.due("from(0, 0) of nobody", x.from(0, 0), UNKNOWN);
        x.person(TELLER);
        x.person(TELLER);
        x.see(0, 1, 5);
        for (int none : new int[] {MIN, -1, 2, 7, 8, MAX}) {
            Check.due("size(" + none + ", 0)", x.size(none, 0), UNKNOWN);
            Check.due("from(" + none + ", 0)", x.from(none, 0), UNKNOWN);
        }
        Check.due("size(1, 0)", x.size(1, 0), 5);
        Check.due("size(0, 3)", x.size(0, 3), NONE);
        Check.due("from(0, 3)", x.from(0, 3), NONE);
        Check.due("size(0, 4)", x.size(0, 4), UNKNOWN);
        Check.due("from(0, 4)", x.from(0, 4), UNKNOWN);
    }
}
