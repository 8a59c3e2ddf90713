/** The sentences of the document that name a boundary of first sizes, modest ones, one thing and whom to ask. */
final class EdgesOfWhatItWas {
    private static final int NONE = -1, UNKNOWN = -101, OUTSIDE = -102, STATE = -103;
    private static final int TELLER = 0, MODEST = 1, DOCTOR = 2, BRAGGART = 3;
    private static final int MIN = Integer.MIN_VALUE, MAX = Integer.MAX_VALUE;

    private EdgesOfWhatItWas() {
    }

    static void run() {
        firstsOfWitness();
        firstsOfEachSize();
        firstsByLaws();
        firstsCapped();
        firstsOfToldBack();
        hadItsWitnessSeenIt();
        firstsOfNobodyTold();
        firstsRefused();
        modestOnesAsBits();
        justThisOne();
        notModestOnes();
        modestAtEnds();
        modestRefused();
        oneThingOfFirstSizes();
        oneOfTheseTwoToo();
        eachWitness();
        waysAreAdded();
        nobodyElseHadSeenIt();
        oneRefused();
        nobodyElseToAsk();
        notHim();
        askedLeastOfLikeOnes();
        notAtAll();
        askedOfOneToNinetyNine();
        byHimAlone();
        askRefused();
    }

    private static void firsts(GrowsByHalf x, int person, int size, int many, int least, int greatest) {
        String call = "firsts(0, " + person + ", " + size;
        Check.due(call + ", 0)", x.firsts(0, person, size, 0), many);
        Check.due(call + ", 1)", x.firsts(0, person, size, 1), least);
        Check.due(call + ", 2)", x.firsts(0, person, size, 2), greatest);
    }

    /** 0 has seen tale 0 and tells 1. */
    private static GrowsByHalf toldByLaw(String law) {
        GrowsByHalf x = Texts.valley("01", TELLER, TELLER);
        Texts.law(x, law);
        x.see(0, 0, 5);
        return x;
    }

    private static void firstsOfWitness() {
        Check.sentence("FIRSTS of a TALE: all SIZES (0 to 999)");
        for (String week : new String[] {"", "01"}) {
            GrowsByHalf x = Texts.valley(week, MODEST, MODEST);
            x.see(0, 0, 5);
            int person = week.isEmpty() ? 0 : 1;
            firsts(x, person, 0, 1, 0, 0);
            firsts(x, person, 1, 1, 1, 1);
            firsts(x, person, 998, 1, 998, 998);
            firsts(x, person, 999, 1, 999, 999);
            firsts(x, person, 1000, 0, NONE, NONE);
            firsts(x, person, 1001, 0, NONE, NONE);
            firsts(x, person, 9999, 0, NONE, NONE);
        }
    }

    private static void firstsOfEachSize() {
        Check.sentence("FIRSTS of a TALE: all SIZES (0 to 999), each of them");
        for (int from = 0; from < 1000; from += 100) {
            GrowsByHalf x = Texts.valley("01", MODEST, MODEST);
            x.see(0, 0, 5);
            for (int size = from; size < from + 100; size++) {
                firsts(x, 1, size, 1, size, size);
            }
        }
    }

    private static void firstsByLaws() {
        Check.sentence("SIZES (0 to 999) by which a told PERSON would have it so big: how many, the least, the greatest");
        GrowsByHalf ninth = toldByLaw("/9");
        firsts(ninth, 1, 0, 9, 0, 8);
        firsts(ninth, 1, 1, 9, 9, 17);
        firsts(ninth, 1, 110, 9, 990, 998);
        firsts(ninth, 1, 111, 1, 999, 999);
        firsts(ninth, 1, 112, 0, NONE, NONE);
        GrowsByHalf more = toldByLaw("+9");
        firsts(more, 1, 8, 0, NONE, NONE);
        firsts(more, 1, 9, 1, 0, 0);
        firsts(more, 1, 1008, 1, 999, 999);
        firsts(more, 1, 1009, 0, NONE, NONE);
        GrowsByHalf less = toldByLaw("-9");
        firsts(less, 1, 0, 10, 0, 9);
        firsts(less, 1, 1, 1, 10, 10);
        firsts(less, 1, 990, 1, 999, 999);
        firsts(less, 1, 991, 0, NONE, NONE);
        GrowsByHalf nothing = toldByLaw("/9/9/9/9");
        firsts(nothing, 1, 0, 1000, 0, 999);
        firsts(nothing, 1, 1, 0, NONE, NONE);
    }

    private static void firstsCapped() {
        Check.sentence("what is bigger is 9999: all FIRSTS that come to it");
        GrowsByHalf x = toldByLaw("dddd");
        firsts(x, 1, 9999, 375, 625, 999);
        firsts(x, 1, 9998, 0, NONE, NONE);
        firsts(x, 1, 9984, 1, 624, 624);
        firsts(x, 1, 0, 1, 0, 0);
    }

    private static void firstsOfToldBack() {
        Check.sentence("a told PERSON, its WITNESS too, if it is told");
        GrowsByHalf x = Texts.valley("01,10", TELLER, TELLER);
        x.see(0, 0, 5);
        firsts(x, 0, 0, 1, 0, 0);
        firsts(x, 0, 1, 1, 1, 1);
        firsts(x, 0, 2, 0, NONE, NONE);
        firsts(x, 0, 3, 0, NONE, NONE);
        firsts(x, 0, 4, 1, 2, 2);
        firsts(x, 0, 999, 1, 444, 444);
        firsts(x, 0, 2247, 1, 999, 999);
        firsts(x, 0, 2248, 0, NONE, NONE);
    }

    private static void hadItsWitnessSeenIt() {
        Check.sentence("had its WITNESS SEEN it so big: how big it was SEEN does not matter");
        for (int seen : new int[] {0, 20, 999, 1000, 9999}) {
            GrowsByHalf x = Texts.valley("01", TELLER, TELLER);
            x.see(0, 0, seen);
            x.see(1, 1, 777);
            firsts(x, 1, 30, 1, 20, 20);
            firsts(x, 0, 20, 1, 20, 20);
            firsts(x, 1, 777, 1, 518, 518);
            Check.due("it is as it was SEEN", x.size(0, 0), seen);
        }
    }

    private static void firstsOfNobodyTold() {
        Check.sentence("(NONE: there are none)");
        GrowsByHalf x = Texts.valley("01", TELLER, TELLER, TELLER);
        x.see(0, 0, 5);
        firsts(x, 2, 0, 0, NONE, NONE);
        firsts(x, 2, 5, 0, NONE, NONE);
        firsts(x, 2, 9999, 0, NONE, NONE);
        firsts(x, 1, 2, 0, NONE, NONE);
        x.see(0, 1, 5);
        firsts(x, 0, 0, 0, NONE, NONE);
        x.see(0, 2, 5);
        firsts(x, 1, 7, 0, NONE, NONE);
    }

    private static void firstsRefused() {
        Check.sentence("firsts: UNKNOWN: tale, person; OUTSIDE: size, what; STATE: nobody has SEEN it");
        GrowsByHalf x = toldByLaw("h");
        for (int none : new int[] {MIN, -1, 2, 8, MAX}) {
            Check.due("person " + none, x.firsts(0, none, 5, 0), UNKNOWN);
            Check.due("ahead of OUTSIDE", x.firsts(0, none, 10000, 0), UNKNOWN);
            Check.due("ahead of OUTSIDE: what", x.firsts(0, none, 5, 3), UNKNOWN);
            Check.due("ahead of STATE", x.firsts(1, none, 5, 0), UNKNOWN);
        }
        for (int none : new int[] {MIN, -1, 4, MAX}) {
            Check.due("tale " + none, x.firsts(none, 1, 5, 0), UNKNOWN);
            Check.due("tale ahead of OUTSIDE", x.firsts(none, 1, -1, 3), UNKNOWN);
        }
        for (int none : new int[] {MIN, -1, 10000, MAX}) {
            Check.due("size " + none, x.firsts(0, 1, none, 0), OUTSIDE);
            Check.due("size ahead of STATE", x.firsts(1, 1, none, 0), OUTSIDE);
        }
        for (int none : new int[] {MIN, -1, 3, MAX}) {
            Check.due("what " + none, x.firsts(0, 1, 7, none), OUTSIDE);
            Check.due("what ahead of STATE", x.firsts(1, 1, 7, none), OUTSIDE);
        }
        for (int tale = 1; tale < 4; tale++) {
            Check.due("tale " + tale + " is not SEEN", x.firsts(tale, 1, 7, 0), STATE);
        }
        Check.due("size 0", x.firsts(0, 1, 0, 0), 1);
        Check.due("size 9999", x.firsts(0, 1, 9999, 0), 0);
        x.drop(0);
        Check.due("no more SEEN", x.firsts(0, 1, 7, 0), STATE);
    }

    private static void modest(GrowsByHalf x, int person, int size, int due) {
        Check.due("modest(0, " + person + ", " + size + ")", x.modest(0, person, size), due);
    }

    private static void modestOnesAsBits() {
        Check.sentence("MODEST ONES, as bits");
        GrowsByHalf x = Texts.valley("01", 0, 0, 0, 0, 0, 0, 0, 0);
        x.see(0, 0, 20);
        modest(x, 1, 20, 1);
        modest(x, 1, 30, 254);
        modest(x, 0, 20, 255);
        modest(x, 1, 31, 0);
        modest(x, 2, 20, 0);
        Texts.week(x, "76,65");
        x.see(0, 7, 20);
        modest(x, 6, 20, 128);
        modest(x, 5, 30, 64 + 128);
        modest(x, 5, 45, 63);
        modest(x, 5, 20, 0);
        GrowsByHalf alone = Texts.valley("01", BRAGGART);
        alone.see(0, 0, 3);
        modest(alone, 0, 3, 1);
        modest(alone, 0, 6, 0);
    }

    private static void justThisOne() {
        Check.sentence("had just this one been a MODEST");
        GrowsByHalf x = Texts.valley("01,12", TELLER, TELLER, TELLER);
        x.see(0, 0, 8);
        modest(x, 2, 12, 1 + 2);
        modest(x, 2, 18, 4);
        modest(x, 2, 8, 0);
        GrowsByHalf braggart = Texts.valley("01,12", BRAGGART, TELLER, BRAGGART);
        braggart.see(0, 0, 8);
        modest(braggart, 2, 12, 1);
        modest(braggart, 2, 18, 2);
        modest(braggart, 2, 27, 4);
        GrowsByHalf twoWays = Texts.valley("01,02,12,21", TELLER, TELLER, TELLER);
        twoWays.see(0, 0, 8);
        Check.due("size(1, 0)", twoWays.size(1, 0), 27);
        modest(twoWays, 1, 27, 0);
        modest(twoWays, 1, 18, 7);
        modest(twoWays, 2, 12, 1 + 2);
        modest(twoWays, 2, 18, 4);
    }

    private static void notModestOnes() {
        Check.sentence("all PEOPLE who are not MODEST by whom (a DOCTOR is MODEST, too)");
        GrowsByHalf x = Texts.valley("01", TELLER, MODEST, DOCTOR, BRAGGART);
        x.see(0, 0, 20);
        modest(x, 1, 30, 8);
        modest(x, 1, 20, 1);
        modest(x, 0, 20, 1 + 8);
        GrowsByHalf doctor = Texts.valley("01", DOCTOR, TELLER);
        doctor.see(0, 0, 20);
        modest(doctor, 1, 20, 0);
        modest(doctor, 1, 10, 2);
        GrowsByHalf all = Texts.valley("01,12", MODEST, DOCTOR, MODEST);
        all.see(0, 0, 20);
        modest(all, 1, 20, 0);
        modest(all, 2, 10, 0);
        modest(all, 2, 20, 0);
    }

    private static void modestAtEnds() {
        Check.sentence("a told PERSON would have a TALE so big: of 0, of 9999, or not at all");
        GrowsByHalf x = Texts.valley("01", TELLER, TELLER, TELLER);
        x.see(0, 0, 0);
        modest(x, 1, 0, 7);
        modest(x, 2, 0, 0);
        x.see(0, 0, 9999);
        modest(x, 1, 9999, 7);
        x.see(0, 0, 9000);
        modest(x, 1, 9999, 6);
        modest(x, 1, 9000, 1);
        x.see(0, 2, 5);
        modest(x, 1, 0, 0);
        Texts.law(x, "-9");
        Texts.week(x, "20");
        modest(x, 0, 0, 3);
        modest(x, 0, 5, 4);
    }

    private static void modestRefused() {
        Check.sentence("modest: UNKNOWN: tale, person; OUTSIDE: size; STATE: nobody has SEEN it");
        GrowsByHalf x = toldByLaw("h");
        for (int none : new int[] {MIN, -1, 2, 8, MAX}) {
            Check.due("person " + none, x.modest(0, none, 5), UNKNOWN);
            Check.due("ahead of OUTSIDE", x.modest(0, none, -1), UNKNOWN);
            Check.due("ahead of STATE", x.modest(1, none, 5), UNKNOWN);
        }
        for (int none : new int[] {MIN, -1, 4, MAX}) {
            Check.due("tale " + none, x.modest(none, 1, 5), UNKNOWN);
            Check.due("tale ahead of OUTSIDE", x.modest(none, 1, 10000), UNKNOWN);
        }
        for (int none : new int[] {MIN, -1, 10000, MAX}) {
            Check.due("size " + none, x.modest(0, 1, none), OUTSIDE);
            Check.due("size ahead of STATE", x.modest(3, 1, none), OUTSIDE);
        }
        for (int tale = 1; tale < 4; tale++) {
            Check.due("tale " + tale + " is not SEEN", x.modest(tale, 1, 7), STATE);
        }
        x.drop(0);
        Check.due("no more SEEN", x.modest(0, 1, 7), STATE);
    }

    private static void one(GrowsByHalf x, int v, int w, int due) {
        Check.due("one(0, " + v + ", 1, " + w + ")", x.one(0, v, 1, w), due);
        Check.due("one(1, " + w + ", 0, " + v + ")", x.one(1, w, 0, v), due);
    }

    private static void oneThingOfFirstSizes() {
        Check.sentence("ONE THING: in how many ways (a WITNESS, a SIZE of 0 to 999)");
        GrowsByHalf x = Texts.valley("20,21", MODEST, MODEST, MODEST);
        one(x, 0, 0, 1);
        one(x, 1, 1, 1);
        one(x, 999, 999, 1);
        one(x, 1000, 1000, 0);
        one(x, 9999, 9999, 0);
        one(x, 999, 998, 0);
        one(x, 0, 1, 0);
        GrowsByHalf capped = Texts.valley("20,21", MODEST, MODEST, TELLER);
        Texts.law(capped, "dddd");
        one(capped, 9999, 9999, 375);
        one(capped, 9984, 9984, 1);
        one(capped, 9984, 9999, 0);
        GrowsByHalf ninth = Texts.valley("20,21", MODEST, MODEST, TELLER);
        Texts.law(ninth, "/9");
        one(ninth, 0, 0, 9);
        one(ninth, 110, 110, 9);
        one(ninth, 111, 111, 1);
        one(ninth, 112, 112, 0);
    }

    private static void oneOfTheseTwoToo() {
        Check.sentence("(a WITNESS, one of these two, too)");
        GrowsByHalf x = Texts.valley("01", TELLER, TELLER);
        one(x, 10, 15, 1);
        one(x, 15, 10, 0);
        one(x, 0, 0, 1);
        one(x, 999, 1498, 1);
        one(x, 1000, 1500, 0);
        Texts.week(x, "10");
        one(x, 15, 10, 1);
        one(x, 10, 15, 0);
        GrowsByHalf both = Texts.valley("01,10", MODEST, MODEST);
        one(both, 5, 5, 2);
        one(both, 999, 999, 2);
        one(both, 1000, 1000, 0);
        GrowsByHalf none = Texts.valley("", MODEST, MODEST);
        one(none, 5, 5, 0);
        one(none, 0, 0, 0);
    }

    private static void eachWitness() {
        Check.sentence("ONE THING: any of all may be the WITNESS");
        GrowsByHalf x = Texts.valley("20,21,30,31,40,41,50,51,60,61,70,71,01,10", 1, 1, 1, 1, 1, 1, 1, 1);
        one(x, 5, 5, 8);
        one(x, 0, 0, 8);
        one(x, 999, 999, 8);
        one(x, 1000, 1000, 0);
        Check.due("one(6, 5, 7, 5)", x.one(6, 5, 7, 5), 0);
        Texts.week(x, "70,71");
        one(x, 5, 5, 1);
    }

    private static void waysAreAdded() {
        Check.sentence("in how many ways");
        GrowsByHalf x = Texts.valley("20,21,01,10", TELLER, TELLER, TELLER);
        Texts.law(x, "/9");
        one(x, 0, 0, 9 + 1 + 1);
        one(x, 1, 1, 9);
        one(x, 9, 1, 1);
        one(x, 1, 9, 1);
        one(x, 999, 111, 1);
        Texts.law(x, "/9/9/9/9");
        one(x, 0, 0, 1000 + 1 + 1);
        one(x, 999, 0, 1);
    }

    private static void nobodyElseHadSeenIt() {
        Check.sentence("if nobody else had SEEN it: what was SEEN does not matter");
        GrowsByHalf x = Texts.valley("01", TELLER, TELLER);
        for (int tale = 0; tale < 4; tale++) {
            x.see(tale, tale % 2, 400 + tale);
        }
        one(x, 10, 15, 1);
        one(x, 10, 401, 0);
        one(x, 400, 600, 1);
        Check.due("size(1, 1)", x.size(1, 1), 401);
    }

    private static void oneRefused() {
        Check.sentence("one: UNKNOWN: a, b, or they are the same; OUTSIDE: v, w");
        GrowsByHalf x = Texts.valley("01", TELLER, TELLER);
        for (int none : new int[] {MIN, -1, 2, 8, MAX}) {
            Check.due("a " + none, x.one(none, 5, 1, 5), UNKNOWN);
            Check.due("b " + none, x.one(1, 5, none, 5), UNKNOWN);
            Check.due("both " + none, x.one(none, 5, none, 5), UNKNOWN);
            Check.due("a ahead of OUTSIDE", x.one(none, -1, 1, 10000), UNKNOWN);
            Check.due("b ahead of OUTSIDE", x.one(1, -1, none, 10000), UNKNOWN);
        }
        Check.due("the same", x.one(1, 5, 1, 5), UNKNOWN);
        Check.due("the same ahead of OUTSIDE", x.one(0, -1, 0, 5), UNKNOWN);
        for (int none : new int[] {MIN, -1, 10000, MAX}) {
            Check.due("v " + none, x.one(0, none, 1, 5), OUTSIDE);
            Check.due("w " + none, x.one(0, 5, 1, none), OUTSIDE);
        }
        GrowsByHalf alone = Texts.valley("01", TELLER);
        Check.due("of one PERSON", alone.one(0, 3, 1, 4), UNKNOWN);
        Check.due("of nobody", new GrowsByHalf().one(0, 3, 1, 4), UNKNOWN);
    }

    private static void nobodyElseToAsk() {
        Check.sentence("ASK; NONE: there is nobody else");
        for (int kind = 0; kind < 4; kind++) {
            GrowsByHalf x = Texts.valley("01,10", kind);
            Check.due("ask(0)", x.ask(0), NONE);
            x.image();
            x.person(kind);
            Check.due("ask(0) of two", x.ask(0), 1);
            Check.due("ask(1) of two", x.ask(1), 0);
            x.restore();
            Check.due("ask(0) of one again", x.ask(0), NONE);
        }
    }

    private static void notHim() {
        Check.sentence("the PERSON (not him)");
        GrowsByHalf x = Texts.valley("", 0, 0, 0, 0, 0, 0, 0, 0);
        Check.due("ask(0)", x.ask(0), 1);
        for (int witness = 1; witness < 8; witness++) {
            Check.due("ask(" + witness + ")", x.ask(witness), 0);
        }
        Texts.week(x, "67");
        Check.due("ask(6)", x.ask(6), 7);
        Texts.week(x, "76");
        Check.due("ask(7)", x.ask(7), 6);
        Check.due("ask(6), who is told", x.ask(6), 0);
    }

    private static void askedLeastOfLikeOnes() {
        Check.sentence("ASK: the greatest number is least; of like ones the least");
        GrowsByHalf x = Texts.valley("03,02", TELLER, TELLER, TELLER, TELLER);
        Check.due("ask(0) of two that were told", x.ask(0), 2);
        Texts.week(x, "03");
        Check.due("ask(0) of one that was told", x.ask(0), 3);
        Check.due("ask(3)", x.ask(3), 0);
        GrowsByHalf half = Texts.valley("01,12", MODEST, DOCTOR, TELLER);
        Check.due("one alike ahead of two", half.ask(0), 1);
        GrowsByHalf later = Texts.valley("02,21", MODEST, TELLER, DOCTOR);
        Check.due("two alike behind one", later.ask(0), 2);
        Texts.law(later, "+1");
        Texts.week(later, "02,21,01");
        Check.due("as unlike by the later telling", later.ask(0), 1);
    }

    private static void notAtAll() {
        Check.sentence("that would let him have it alike, or not at all");
        GrowsByHalf x = Texts.valley("01", TELLER, TELLER, TELLER);
        Texts.law(x, "/9/9/9");
        Check.due("all alike at 1, not at all at 2", x.ask(0), 1);
        Texts.week(x, "02");
        Check.due("not at all at 1, all alike at 2", x.ask(0), 1);
        Texts.law(x, "/9/8");
        Check.due("99 of them at 1, 71 at 2", x.ask(0), 2);
        Texts.law(x, "-9-9-9");
        Texts.week(x, "01");
        Check.due("27 of them at 1, 99 at 2", x.ask(0), 1);
    }

    /** In each valley another one would be asked if 0 or 100 were taken in, too, or 1 or 99 were not. */
    private static void askedOfOneToNinetyNine() {
        Check.sentence("the greatest number of SIZES (1 to 99, as they could have been SEEN)");
        GrowsByHalf zero = Texts.valley("02,21", MODEST, TELLER, TELLER);
        Texts.law(zero, "-1");
        Check.due("1 alike at 1 and 2: 0 is none of them", zero.ask(0), 1);
        GrowsByHalf first = Texts.valley("02,21", DOCTOR, MODEST, TELLER);
        Texts.law(first, "-1");
        Check.due("1, 2 and 3 alike at 1: 1 is one of them", first.ask(0), 2);
        GrowsByHalf last = Texts.valley("03", BRAGGART, TELLER, TELLER, TELLER);
        Texts.law(last, "-9/6");
        Check.due("1 to 98 alike at 3: 99 is one of them", last.ask(0), 3);
        GrowsByHalf hundred = Texts.valley("03", BRAGGART, TELLER, TELLER, TELLER);
        Texts.law(hundred, "/2/5");
        Check.due("1 to 99 alike at 3: 100 is none of them", hundred.ask(0), 1);
    }

    private static void byHimAlone() {
        Check.sentence("as they could have been SEEN by him alone");
        GrowsByHalf x = Texts.valley("01,12", TELLER, TELLER, TELLER);
        x.see(0, 1, 9999);
        x.see(1, 2, 9999);
        Check.due("ask(0)", x.ask(0), 1);
        Check.due("ask(1)", x.ask(1), 2);
        Check.due("ask(2)", x.ask(2), 0);
        Check.due("its witness stays", x.drop(0), 1);
    }

    private static void askRefused() {
        Check.sentence("ask: UNKNOWN");
        Check.due("ask(0) of nobody", new GrowsByHalf().ask(0), UNKNOWN);
        GrowsByHalf x = Texts.valley("01", TELLER, TELLER);
        for (int none : new int[] {MIN, -1, 2, 7, 8, MAX}) {
            Check.due("ask(" + none + ")", x.ask(none), UNKNOWN);
        }
    }
}
