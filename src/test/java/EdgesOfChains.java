import java.math.BigInteger;

/** The sentences of the document that name a boundary of chains, chances, likeliest first sizes and gossip. */
final class EdgesOfChains {
    private static final int NONE = -1, UNKNOWN = -101, OUTSIDE = -102, STATE = -103;
    private static final int TELLER = 0, MODEST = 1, DOCTOR = 2, BRAGGART = 3;
    private static final int MIN = Integer.MIN_VALUE, MAX = Integer.MAX_VALUE;

    private EdgesOfChains() {
    }

    static void run() {
        noTellings();
        twentyAtMost();
        twentyOfAllWhoKnowAll();
        eachChainBeginsAnew();
        justSoBig();
        chainOfLikeOnes();
        fewestFirst();
        whomHeKnows();
        whatOneHadAhead();
        chainRefused();
        thirtyTimes();
        countsOn();
        oneToNineTellers();
        tenths();
        lowestTerms();
        waysToOneSize();
        chanceRefused();
        likeliestFirst();
        likeliestOfLikeOnes();
        likeliestOfOneWay();
        likeliestNone();
        likeliestRefused();
        gossipDraws();
        gossipEnds();
        inItsPlace();
        gossipOfTaleZero();
        gossipByNumber();
        gossipRefused();
    }

    private static void chain(GrowsByHalf x, int from, int size, int to, int wanted, int fewest, int first) {
        String call = "chain(" + from + ", " + size + ", " + to + ", " + wanted;
        Check.due(call + ", 0)", x.chain(from, size, to, wanted, 0), fewest);
        Check.due(call + ", 1)", x.chain(from, size, to, wanted, 1), first);
    }

    private static void noTellings() {
        Check.sentence("A CHAIN: the fewest TELLINGS (0: it is so); to whom first (NONE: to nobody)");
        GrowsByHalf x = Texts.valley("", TELLER, TELLER);
        chain(x, 0, 10, 0, 10, 0, NONE);
        chain(x, 1, 0, 1, 0, 0, NONE);
        chain(x, 1, 9999, 1, 9999, 0, NONE);
        chain(x, 0, 10, 0, 11, NONE, NONE);
        chain(x, 0, 10, 1, 10, NONE, NONE);
        Texts.ring(x, 2);
        chain(x, 0, 10, 0, 10, 0, NONE);
        chain(x, 0, 0, 0, 0, 0, NONE);
        chain(x, 0, 10, 0, 22, 2, 1);
        chain(x, 0, 0, 1, 0, 1, 1);
        chain(x, 0, 9999, 1, 9999, 1, 1);
        Check.due("done", x.count(7), 20);
    }

    private static void twentyAtMost() {
        Check.sentence("20 at most");
        GrowsByHalf x = Texts.valley("", TELLER, TELLER);
        Texts.law(x, "+1");
        Texts.ring(x, 2);
        for (int tellings = 1; tellings <= 23; tellings++) {
            int due = tellings <= 20 ? tellings : NONE;
            Check.due(tellings + " tellings", x.chain(0, 0, tellings % 2, tellings, 0), due);
        }
        Check.due("to whom first of 20", x.chain(0, 0, 0, 20, 1), 1);
        Check.due("to whom first of 21", x.chain(0, 0, 1, 21, 1), NONE);
        GrowsByHalf eight = Texts.valley("", 1, 1, 1, 1, 1, 1, 1, 0);
        Texts.law(eight, "+1");
        Texts.ring(eight, 8);
        chain(eight, 0, 5, 7, 5, 7, 1);
        chain(eight, 0, 5, 0, 6, 8, 1);
        chain(eight, 0, 5, 7, 6, 15, 1);
        chain(eight, 0, 5, 3, 7, 19, 1);
        chain(eight, 0, 5, 4, 7, 20, 1);
        chain(eight, 0, 5, 5, 7, NONE, NONE);
    }

    private static void twentyOfAllWhoKnowAll() {
        Check.sentence("20 at most, the fewest TELLINGS, where all KNOW all");
        GrowsByHalf x = Texts.valley("", 0, 0, 0, 0, 0, 0, 0, 0);
        Texts.law(x, "+1");
        for (int pair = 0; pair < 64; pair++) {
            x.knows(pair / 8, pair % 8, true);
        }
        chain(x, 0, 0, 0, 1, NONE, NONE);
        chain(x, 0, 0, 1, 1, 1, 1);
        chain(x, 0, 0, 7, 1, 1, 7);
        chain(x, 0, 0, 1, 2, 2, 2);
        chain(x, 0, 0, 0, 2, 2, 1);
        chain(x, 0, 0, 1, 19, 19, 1);
        chain(x, 0, 0, 0, 20, 20, 1);
        chain(x, 7, 9979, 7, 9999, 20, 0);
        chain(x, 7, 9978, 7, 9999, NONE, NONE);
        chain(x, 0, 0, 7, 20, 20, 1);
        chain(x, 0, 0, 7, 21, NONE, NONE);
    }

    private static void eachChainBeginsAnew() {
        Check.sentence("by the first PERSON at first: what an earlier chain() came to is none of it");
        GrowsByHalf x = Texts.valley("", MODEST, MODEST, MODEST);
        x.knows(0, 1, true);
        chain(x, 1, 5, 1, 0, NONE, NONE);
        chain(x, 0, 0, 1, 0, 1, 1);
        chain(x, 1, 5, 1, 0, NONE, NONE);
        chain(x, 0, 5, 1, 5, 1, 1);
        chain(x, 1, 7, 0, 5, NONE, NONE);
        chain(x, 1, 7, 1, 5, NONE, NONE);
        chain(x, 2, 5, 1, 5, NONE, NONE);
        chain(x, 0, 5, 1, 5, 1, 1);
        chain(x, 0, 6, 1, 5, NONE, NONE);
    }

    private static void justSoBig() {
        Check.sentence("by which a tale of a SIZE that one has comes to a PERSON as just so big");
        GrowsByHalf x = Texts.valley("", TELLER, DOCTOR, BRAGGART, MODEST);
        Texts.ring(x, 4);
        chain(x, 0, 9, 1, 13, 1, 1);
        chain(x, 0, 9, 1, 12, NONE, NONE);
        chain(x, 0, 9, 1, 14, NONE, NONE);
        chain(x, 0, 9, 2, 6, 2, 1);
        chain(x, 0, 9, 3, 13, 3, 1);
        chain(x, 0, 9, 0, 13, 4, 1);
        chain(x, 0, 9999, 1, 9999, 1, 1);
        chain(x, 2, 9999, 1, 9998, NONE, NONE);
        chain(x, 1, 1, 2, 0, 1, 2);
        GrowsByHalf capped = Texts.valley("", TELLER, TELLER);
        Texts.ring(capped, 2);
        chain(capped, 0, 6667, 1, 9999, 1, 1);
        chain(capped, 0, 6665, 1, 9997, 1, 1);
        chain(capped, 0, 6665, 0, 9999, 2, 1);
    }

    private static void chainOfLikeOnes() {
        Check.sentence("to whom it is told first: of like ones the least");
        GrowsByHalf x = Texts.valley("", 1, 1, 1, 1, 1, 1, 1, 1);
        for (int middle = 6; middle >= 1; middle--) {
            x.knows(0, middle, true);
            x.knows(middle, 7, true);
            chain(x, 0, 5, 7, 5, 2, middle);
        }
        for (int middle = 1; middle < 6; middle++) {
            x.knows(middle, 7, false);
            chain(x, 0, 5, 7, 5, 2, middle + 1);
        }
        GrowsByHalf later = Texts.valley("", 1, 1, 1, 1, 1, 1);
        // By 1 and 4, or by 2 and 3: the one told first counts, not who is told next.
        later.knows(0, 2, true);
        later.knows(0, 1, true);
        later.knows(2, 3, true);
        later.knows(1, 4, true);
        later.knows(3, 5, true);
        later.knows(4, 5, true);
        chain(later, 0, 5, 5, 5, 3, 1);
        later.knows(4, 5, false);
        chain(later, 0, 5, 5, 5, 3, 2);
    }

    private static void fewestFirst() {
        Check.sentence("the fewest TELLINGS, ahead of whom it is told first");
        GrowsByHalf x = Texts.valley("", 1, 1, 1, 1);
        x.knows(0, 1, true);
        x.knows(1, 2, true);
        x.knows(2, 3, true);
        chain(x, 0, 5, 3, 5, 3, 1);
        x.knows(0, 2, true);
        chain(x, 0, 5, 3, 5, 2, 2);
        x.knows(0, 3, true);
        chain(x, 0, 5, 3, 5, 1, 3);
        GrowsByHalf grown = Texts.valley("", MODEST, TELLER, MODEST);
        Texts.law(grown, "+1");
        grown.knows(0, 1, true);
        grown.knows(1, 0, true);
        grown.knows(0, 2, true);
        chain(grown, 0, 5, 2, 5, 1, 2);
        chain(grown, 0, 5, 2, 6, 3, 1);
        chain(grown, 0, 5, 2, 14, 19, 1);
        chain(grown, 0, 5, 2, 15, NONE, NONE);
    }

    private static void whomHeKnows() {
        Check.sentence("each by whom the last one was told to one whom he KNOWS");
        GrowsByHalf x = Texts.valley("01,12,20", MODEST, MODEST, MODEST);
        chain(x, 0, 5, 1, 5, NONE, NONE);
        x.knows(1, 0, true);
        chain(x, 0, 5, 1, 5, NONE, NONE);
        chain(x, 1, 5, 0, 5, 1, 0);
        x.knows(0, 2, true);
        chain(x, 1, 5, 2, 5, 2, 0);
        x.knows(0, 2, false);
        chain(x, 1, 5, 2, 5, NONE, NONE);
        x.knows(0, 2, true);
        x.image();
        x.knows(1, 0, false);
        chain(x, 1, 5, 2, 5, NONE, NONE);
        x.restore();
        chain(x, 1, 5, 2, 5, 2, 0);
    }

    private static void whatOneHadAhead() {
        Check.sentence("(What one had ahead does not matter.)");
        GrowsByHalf x = Texts.valley("01,10", TELLER, DOCTOR, DOCTOR);
        Texts.ring(x, 3);
        for (int tale = 0; tale < 4; tale++) {
            x.see(tale, tale % 3, 9999);
        }
        chain(x, 0, 4, 1, 6, 1, 1);
        chain(x, 0, 4, 2, 3, 2, 1);
        chain(x, 0, 4, 0, 1, 3, 1);
        Check.due("and is as it was", x.size(1, 1), 9999);
    }

    private static void chainRefused() {
        Check.sentence("chain: UNKNOWN: from, to; OUTSIDE: size, wanted, what");
        GrowsByHalf x = Texts.valley("", TELLER, TELLER);
        Texts.ring(x, 2);
        for (int none : new int[] {MIN, -1, 2, 8, MAX}) {
            Check.due("from " + none, x.chain(none, 4, 1, 6, 0), UNKNOWN);
            Check.due("to " + none, x.chain(0, 4, none, 6, 0), UNKNOWN);
            Check.due("both " + none, x.chain(none, 4, none, 4, 0), UNKNOWN);
            Check.due("from ahead of OUTSIDE", x.chain(none, -1, 1, 10000, 2), UNKNOWN);
            Check.due("to ahead of OUTSIDE", x.chain(0, -1, none, 10000, 2), UNKNOWN);
        }
        for (int none : new int[] {MIN, -1, 10000, MAX}) {
            Check.due("size " + none, x.chain(0, none, 1, 6, 0), OUTSIDE);
            Check.due("wanted " + none, x.chain(0, 4, 1, none, 0), OUTSIDE);
            Check.due("both " + none, x.chain(0, none, 0, none, 0), OUTSIDE);
        }
        for (int none : new int[] {MIN, -1, 2, MAX}) {
            Check.due("what " + none, x.chain(0, 4, 1, 6, none), OUTSIDE);
        }
        Check.due("none was done", x.count(7), 0);
        Check.due("size 0", x.chain(0, 0, 1, 0, 0), 1);
        Check.due("size 9999", x.chain(0, 9999, 1, 9999, 0), 1);
        Check.due("two were done", x.count(7), 2);
    }

    private static void thirtyTimes() {
        Check.sentence("STATE: chain() was done 30 times ever (where it told NONE, too, not where it was refused)");
        GrowsByHalf x = Texts.valley("", TELLER, TELLER);
        x.knows(0, 1, true);
        for (int time = 1; time <= 30; time++) {
            Check.due("UNKNOWN", x.chain(2, 4, 1, 6, 0), UNKNOWN);
            Check.due("OUTSIDE", x.chain(0, 4, 1, 6, 2), OUTSIDE);
            boolean none = time % 3 == 0;
            Check.due("time " + time, x.chain(0, 4, 1, none ? 7 : 6, time % 2), none ? NONE : 1);
            Check.due("count(7)", x.count(7), time);
        }
        for (int time = 31; time <= 33; time++) {
            Check.due("time " + time, x.chain(0, 4, 1, 6, 0), STATE);
            Check.due("it is so, too", x.chain(0, 4, 0, 4, 0), STATE);
            Check.due("to whom first", x.chain(0, 4, 1, 6, 1), STATE);
            Check.due("UNKNOWN ahead of STATE", x.chain(0, 4, 2, 6, 0), UNKNOWN);
            Check.due("OUTSIDE ahead of STATE", x.chain(0, 10000, 1, 6, 0), OUTSIDE);
            Check.due("OUTSIDE ahead of STATE", x.chain(0, 4, 1, -1, 0), OUTSIDE);
            Check.due("OUTSIDE ahead of STATE", x.chain(0, 4, 1, 6, -1), OUTSIDE);
            Check.due("count(7)", x.count(7), 30);
        }
    }

    private static void countsOn() {
        Check.sentence("it counts on, whatever is read or restored");
        GrowsByHalf x = Texts.valley("01", TELLER, TELLER);
        x.knows(0, 1, true);
        x.image();
        for (int time = 1; time <= 29; time++) {
            x.chain(0, 4, 1, 6, 0);
            x.restore();
            Texts.law(x, "h");
            Texts.week(x, "01");
            Check.due("count(7)", x.count(7), time);
        }
        x.image();
        x.restore();
        Check.due("the 30th", x.chain(0, 4, 1, 6, 0), 1);
        x.restore();
        Check.due("the 31st", x.chain(0, 4, 1, 6, 0), STATE);
        Texts.law(x, "d");
        Check.due("by another law", x.chain(0, 4, 1, 8, 0), STATE);
        Texts.week(x, "10");
        Check.due("by another week", x.chain(0, 4, 1, 8, 0), STATE);
        GrowsByHalf other = Texts.valley("", TELLER);
        Check.due("of another object", other.chain(0, 4, 0, 4, 0), 0);
    }

    private static void chance(GrowsByHalf x, int tellers, int tenths, int first, int size, long above, long below) {
        String call = "chance(" + tellers + ", " + tenths + ", " + first + ", " + size;
        Check.due(call + ", 0)", x.chance(tellers, tenths, first, size, 0), above);
        Check.due(call + ", 1)", x.chance(tellers, tenths, first, size, 1), below);
    }

    private static void oneToNineTellers() {
        Check.sentence("CHANCES: so many (1 to 9) tell one behind the other");
        GrowsByHalf x = new GrowsByHalf();
        Texts.law(x, "+1");
        for (int tellers = 1; tellers <= 9; tellers++) {
            chance(x, tellers, 0, 50, 50 + tellers, 1, 1);
            chance(x, tellers, 0, 50, 49 + tellers, 0, 1);
            chance(x, tellers, 10, 50, 50, 1, 1);
            chance(x, tellers, 5, 50, 50 + tellers, 1, 1L << tellers);
            chance(x, tellers, 5, 50, 51 + tellers, 0, 1);
        }
        for (int none : new int[] {MIN, -1, 0, 10, MAX}) {
            Check.due("tellers " + none, x.chance(none, 5, 50, 50, 0), OUTSIDE);
            Check.due("tellers " + none, x.chance(none, 5, 50, 50, 1), OUTSIDE);
        }
    }

    private static void tenths() {
        Check.sentence("each a MODEST by TENTHS (0 to 10), else a TELLER");
        GrowsByHalf x = new GrowsByHalf();
        int[] above = {0, 1, 1, 3, 2, 1, 3, 7, 4, 9, 1};
        int[] below = {1, 10, 5, 10, 5, 2, 5, 10, 5, 10, 1};
        for (int tenths = 0; tenths <= 10; tenths++) {
            chance(x, 1, tenths, 10, 10, above[tenths], below[tenths]);
            chance(x, 1, tenths, 10, 15, above[10 - tenths], below[10 - tenths]);
            chance(x, 1, tenths, 10, 12, 0, 1);
        }
        for (int none : new int[] {MIN, -1, 11, MAX}) {
            Check.due("tenths " + none, x.chance(1, none, 10, 10, 0), OUTSIDE);
        }
    }

    private static void lowestTerms() {
        Check.sentence("in lowest terms: part 0 above, 1 below");
        GrowsByHalf x = new GrowsByHalf();
        chance(x, 9, 9, 10, 10, 387420489L, 1000000000L);
        chance(x, 9, 1, 10, 366, 387420489L, 1000000000L);
        chance(x, 9, 5, 10, 15, 9, 512);
        chance(x, 9, 5, 10, 33, 21, 128);
        chance(x, 2, 8, 10, 10, 16, 25);
        chance(x, 2, 8, 10, 15, 8, 25);
        chance(x, 2, 8, 10, 22, 1, 25);
        chance(x, 3, 6, 10, 15, 54, 125);
        chance(x, 9, 3, 10, 11, 0, 1);
        chance(x, 9, 3, 1, 1, 1, 1);
    }

    private static void waysToOneSize() {
        Check.sentence("how likely a SIZE comes to a told one");
        GrowsByHalf x = new GrowsByHalf();
        chance(x, 2, 5, 6666, 9999, 3, 4);
        chance(x, 2, 5, 6666, 6666, 1, 4);
        chance(x, 9, 5, 9999, 9999, 1, 1);
        chance(x, 9, 5, 0, 0, 1, 1);
        chance(x, 9, 5, 9999, 0, 0, 1);
        Texts.law(x, "-1");
        chance(x, 2, 5, 1, 0, 3, 4);
        chance(x, 2, 5, 1, 1, 1, 4);
        chance(x, 9, 0, 9, 0, 1, 1);
        chance(x, 9, 0, 9, 1, 0, 1);
        chance(x, 9, 0, 9999, 9990, 1, 1);
        Texts.law(x, "+0");
        chance(x, 9, 7, 123, 123, 1, 1);
    }

    private static void chanceRefused() {
        Check.sentence("chance: OUTSIDE: tellers, tenths, first (a SIZE), size, part");
        GrowsByHalf x = new GrowsByHalf();
        for (int none : new int[] {MIN, -1, 10000, MAX}) {
            Check.due("first " + none, x.chance(1, 5, none, 10, 0), OUTSIDE);
            Check.due("size " + none, x.chance(1, 5, 10, none, 0), OUTSIDE);
        }
        for (int none : new int[] {MIN, -1, 2, MAX}) {
            Check.due("part " + none, x.chance(1, 5, 10, 10, none), OUTSIDE);
        }
        chance(x, 1, 5, 1000, 1500, 1, 2);
        chance(x, 1, 5, 9999, 9999, 1, 1);
        chance(x, 1, 5, 0, 0, 1, 1);
    }

    private static void likeliest(GrowsByHalf x, int tellers, int tenths, int size, int due) {
        String call = "likeliest(" + tellers + ", " + tenths + ", " + size + ")";
        Check.due(call, x.likeliest(tellers, tenths, size), due);
    }

    private static void likeliestFirst() {
        Check.sentence("LIKELIEST: the first SIZE (1 to 99)");
        GrowsByHalf x = new GrowsByHalf();
        Texts.law(x, "+0");
        for (int size : new int[] {1, 2, 98, 99}) {
            likeliest(x, 1, 5, size, size);
            likeliest(x, 9, 0, size, size);
        }
        for (int size : new int[] {0, 100, 101, 9999}) {
            likeliest(x, 1, 5, size, NONE);
            likeliest(x, 9, 10, size, NONE);
        }
        Texts.law(x, "+9");
        likeliest(x, 1, 0, 9, NONE);
        likeliest(x, 1, 0, 10, 1);
        likeliest(x, 1, 0, 108, 99);
        likeliest(x, 1, 0, 109, NONE);
        likeliest(x, 9, 0, 81, NONE);
        likeliest(x, 9, 0, 82, 1);
        likeliest(x, 9, 0, 180, 99);
        likeliest(x, 9, 0, 181, NONE);
        Texts.law(x, "-9");
        likeliest(x, 1, 0, 0, 1);
        likeliest(x, 1, 0, 90, 99);
        likeliest(x, 1, 0, 91, NONE);
        likeliest(x, 1, 10, 0, NONE);
        likeliest(x, 1, 10, 91, 91);
    }

    private static void likeliestOfLikeOnes() {
        Check.sentence("by which that is likeliest; of like ones the least");
        GrowsByHalf x = new GrowsByHalf();
        for (int tenths = 0; tenths <= 10; tenths++) {
            likeliest(x, 1, tenths, 15, tenths <= 5 ? 10 : 15);
            likeliest(x, 1, tenths, 90, tenths <= 5 ? 60 : 90);
        }
        likeliest(x, 2, 5, 22, 15);
        likeliest(x, 2, 4, 22, 15);
        likeliest(x, 2, 3, 22, 10);
        likeliest(x, 9, 5, 1, 1);
        Texts.law(x, "/9");
        likeliest(x, 1, 0, 3, 27);
        likeliest(x, 1, 0, 0, 1);
        likeliest(x, 1, 0, 11, 99);
        likeliest(x, 1, 6, 3, 3);
        likeliest(x, 1, 5, 3, 3);
        likeliest(x, 1, 4, 3, 27);
    }

    private static void likeliestOfOneWay() {
        Check.sentence("by which that is likeliest: be it as unlikely as can be");
        GrowsByHalf x = new GrowsByHalf();
        likeliest(x, 1, 1, 8, 8);
        likeliest(x, 9, 1, 8, 8);
        chance(x, 9, 1, 8, 8, 1, 1000000000);
        Texts.law(x, "+9+2");
        likeliest(x, 9, 9, 198, 99);
        chance(x, 9, 9, 99, 198, 1, 1000000000);
        likeliest(x, 9, 9, 199, NONE);
    }

    private static void likeliestNone() {
        Check.sentence("none, if it is by none");
        GrowsByHalf x = new GrowsByHalf();
        likeliest(x, 1, 0, 2, NONE);
        likeliest(x, 1, 5, 0, NONE);
        likeliest(x, 9, 5, 9999, NONE);
        likeliest(x, 1, 0, 148, 99);
        likeliest(x, 1, 0, 149, NONE);
        likeliest(x, 1, 0, 150, NONE);
        likeliest(x, 1, 10, 100, NONE);
        Texts.law(x, "dddd");
        likeliest(x, 9, 0, 9999, 1);
        likeliest(x, 2, 0, 9999, 40);
        likeliest(x, 1, 0, 9999, NONE);
    }

    private static void likeliestRefused() {
        Check.sentence("likeliest: OUTSIDE: tellers, tenths, size");
        GrowsByHalf x = new GrowsByHalf();
        for (int none : new int[] {MIN, -1, 0, 10, MAX}) {
            likeliest(x, none, 5, 1, OUTSIDE);
        }
        for (int none : new int[] {MIN, -1, 11, MAX}) {
            likeliest(x, 1, none, 1, OUTSIDE);
        }
        for (int none : new int[] {MIN, -1, 10000, MAX}) {
            likeliest(x, 1, 5, none, OUTSIDE);
        }
        likeliest(x, 1, 0, 1, 1);
        likeliest(x, 9, 10, 1, 1);
        likeliest(x, 1, 5, 9999, NONE);
    }

    private static long seedBehind(long seed, int draws) {
        BigInteger now = BigInteger.valueOf(seed);
        for (int draw = 0; draw < draws; draw++) {
            now = now.multiply(BigInteger.valueOf(1103515245)).add(BigInteger.valueOf(12345))
                .mod(BigInteger.TWO.pow(31));
        }
        return now.longValueExact();
    }

    private static void gossipDraws() {
        Check.sentence("DRAWS: the next SEED each time: 1103515245 times it and 12345, its rest by 2 to the 31");
        Check.due("by hand: once from the greatest", seedBehind(MAX, 1), 1043980748);
        GrowsByHalf x = Texts.valley("", TELLER, TELLER, TELLER);
        for (int seed : new int[] {0, 1, 2, 12345, 65535, 65536, 1 << 30, MAX - 1, MAX}) {
            for (int times : new int[] {1, 2, 30, 59, 60}) {
                Check.due("gossip(" + times + ", " + seed + ", 2)", x.gossip(times, seed, 2), seedBehind(seed, 2 * times));
            }
        }
    }

    private static void gossipEnds() {
        Check.sentence("OUTSIDE: times (1 to 60), seed (0 at least), what; STATE: fewer than two PEOPLE");
        GrowsByHalf x = new GrowsByHalf();
        for (int people = 0; people <= 8; people++) {
            for (int times : new int[] {MIN, -1, 0, 61, MAX}) {
                Check.due("times " + times, x.gossip(times, 5, 0), OUTSIDE);
            }
            for (int seed : new int[] {MIN, -1}) {
                Check.due("seed " + seed, x.gossip(1, seed, 0), OUTSIDE);
            }
            for (int what : new int[] {MIN, -1, 3, MAX}) {
                Check.due("what " + what, x.gossip(60, 5, what), OUTSIDE);
            }
            for (int what = 0; what < 3; what++) {
                boolean isRefused = x.gossip(1, 0, what) == STATE;
                Check.due("STATE of " + people, isRefused ? 1 : 0, people < 2 ? 1 : 0);
            }
            Check.due("the next one", x.person(people % 4), people < 8 ? people : GrowsByHalf.FULL);
        }
    }

    private static void inItsPlace() {
        Check.sentence("from the beginning of THE WEEK on, in its place");
        GrowsByHalf x = Texts.valley("20,01,12,20,01,12", TELLER, TELLER, TELLER);
        x.see(0, 2, 10);
        for (int seed = 0; seed < 20; seed++) {
            int due = seedBehind(seed, 1) / 65536 % 3 == 2 ? 15 : 10;
            Check.due("by one telling, seed " + seed, x.gossip(1, seed, 1), due);
            Check.due("again", x.gossip(1, seed, 1), due);
            Check.due("the week stays", x.size(2, 0), 109);
        }
    }

    private static void gossipOfTaleZero() {
        Check.sentence("how many have TALE 0 then, how big the biggest of them is (NONE)");
        GrowsByHalf x = Texts.valley("01", MODEST, MODEST);
        for (int tale = 1; tale < 4; tale++) {
            x.see(tale, 0, 100 * tale);
        }
        Check.due("none has it", x.gossip(60, 1, 0), 0);
        Check.due("none is the biggest", x.gossip(60, 1, 1), NONE);
        Check.due("the seed all the same", x.gossip(60, 1, 2), seedBehind(1, 120));
        x.see(0, 1, 0);
        Check.due("both", x.gossip(60, 1, 0), 2);
        Check.due("of size 0", x.gossip(60, 1, 1), 0);
        x.see(0, 1, 9999);
        Check.due("of size 9999", x.gossip(60, 1, 1), 9999);
        x.drop(0);
        Check.due("none has it again", x.gossip(60, 1, 0), 0);
        GrowsByHalf grown = Texts.valley("", BRAGGART, BRAGGART);
        grown.see(0, 0, 2);
        Check.due("9999 at most", grown.gossip(60, 1, 1), 9999);
        GrowsByHalf half = Texts.valley("", DOCTOR, DOCTOR);
        half.see(0, 0, 9999);
        Check.due("what is smaller is not taken", half.gossip(60, 1, 1), 9999);
        Check.due("half of it is had, too", half.gossip(60, 1, 0), 2);
    }

    /** Told on by the first telling just if its witness is drawn. */
    private static void gossipByNumber() {
        Check.sentence("by a DRAW of how many PEOPLE there are one TELLS, one of the others (by number)");
        for (int people = 2; people <= 8; people++) {
            PlainValley plain = new PlainValley();
            GrowsByHalf x = new GrowsByHalf();
            for (int person = 0; person < people; person++) {
                x.person(person % 4);
                plain.person(person % 4);
            }
            for (int seed = 0; seed < 40; seed++) {
                int who = (int) (seedBehind(seed, 1) / 65536 % people);
                x.see(0, who, 10);
                Check.due("seed " + seed + ": drawn", x.gossip(1, seed, 0), 2);
                x.see(0, (who + 1) % people, 10);
                plain.see(0, (who + 1) % people, 10);
                Check.due("seed " + seed + ": not drawn", x.gossip(1, seed, 0), 1);
                for (int what = 0; what < 3; what++) {
                    Check.due("60 times, what " + what, x.gossip(60, seed, what), plain.gossip(60, seed, what));
                    Check.due("2 times, what " + what, x.gossip(2, seed, what), plain.gossip(2, seed, what));
                }
            }
        }
    }

    private static void gossipRefused() {
        Check.sentence("gossip: OUTSIDE ahead of STATE");
        GrowsByHalf x = Texts.valley("", TELLER);
        Check.due("STATE", x.gossip(1, 0, 0), STATE);
        Check.due("times", x.gossip(0, 0, 0), OUTSIDE);
        Check.due("seed", x.gossip(1, -1, 0), OUTSIDE);
        Check.due("what", x.gossip(1, 0, 3), OUTSIDE);
    }
}
