import java.math.BigInteger;
import java.util.ArrayList;
import java.util.List;

/** The sentences of the document that name a boundary of images, counts and the digest. */
final class EdgesOfAll {
    private static final int NONE = -1, UNKNOWN = -101, OUTSIDE = -102, STATE = -103, FULL = -104;
    private static final int TELLER = 0, MODEST = 1, DOCTOR = 2, BRAGGART = 3;
    private static final int MIN = Integer.MIN_VALUE, MAX = Integer.MAX_VALUE;
    private static final String SIXTEEN = "01,12,23,34,45,56,67,70,02,24,46,60,13,35,57,71";

    private EdgesOfAll() {
    }

    static void run() {
        noneWasKept();
        howManyPeople();
        theLatest();
        goneSince();
        whomTheyKnow();
        whatWasSeen();
        notKept();
        againAndAgain();
        countsOfEach();
        countRefused();
        digestOfPeople();
        digestInOrder();
        digestOfLikeliest();
        digestWraps();
        digestChangesNothing();
    }

    private static void noneWasKept() {
        Check.sentence("It goes on from the IMAGE. STATE: none was kept");
        GrowsByHalf x = new GrowsByHalf();
        Check.due("restore()", x.restore(), STATE);
        x.person(TELLER);
        x.see(0, 0, 5);
        Check.due("restore()", x.restore(), STATE);
        Check.due("count(0)", x.count(0), 1);
        Check.due("size(0, 0)", x.size(0, 0), 5);
        Check.due("image()", x.image(), 1);
        Check.due("restore()", x.restore(), 1);
        Check.due("of another object", new GrowsByHalf().restore(), STATE);
    }

    private static void howManyPeople() {
        Check.sentence("An IMAGE is kept: how many PEOPLE");
        GrowsByHalf x = new GrowsByHalf();
        for (int people = 0; people <= 8; people++) {
            Check.due("image()", x.image(), people);
            Check.due("restore()", x.restore(), people);
            Check.due("person()", x.person(people % 4), people < 8 ? people : FULL);
        }
        Check.due("restore()", x.restore(), 8);
        Check.due("kind(7)", x.kind(7), BRAGGART);
    }

    private static void theLatest() {
        Check.sentence("(one; the latest)");
        GrowsByHalf x = Texts.valley("", TELLER);
        x.see(0, 0, 10);
        Check.due("image()", x.image(), 1);
        x.person(MODEST);
        x.see(0, 1, 20);
        Check.due("image()", x.image(), 2);
        x.person(DOCTOR);
        Check.due("restore()", x.restore(), 2);
        Check.due("its size", x.size(1, 0), 20);
        Check.due("restore()", x.restore(), 2);
        x.see(0, 0, 30);
        Check.due("image()", x.image(), 2);
        x.drop(0);
        Check.due("restore()", x.restore(), 2);
        Check.due("its size", x.size(0, 0), 30);
    }

    private static void goneSince() {
        Check.sentence("how many PEOPLE there are (those that come since are gone by restore())");
        GrowsByHalf x = new GrowsByHalf();
        x.image();
        for (int person = 0; person < 8; person++) {
            x.person(DOCTOR);
        }
        Texts.ring(x, 8);
        x.see(0, 7, 10);
        x.see(1, 0, 10);
        Check.due("a ninth one", x.person(TELLER), FULL);
        Check.due("restore()", x.restore(), 0);
        Check.due("kind(0)", x.kind(0), UNKNOWN);
        Check.due("count(3)", x.count(3), 0);
        Check.due("drop(0)", x.drop(0), NONE);
        for (int person = 0; person < 8; person++) {
            Check.due("room again", x.person(BRAGGART), person);
            Check.due("another kind", x.kind(person), BRAGGART);
        }
        for (int person = 0; person < 8; person++) {
            Check.due("he knows nobody", x.knows(person, (person + 1) % 8, false), 0);
        }
        Check.due("nobody has seen it", x.size(7, 0), NONE);
        Check.due("a ninth one", x.person(TELLER), FULL);
        GrowsByHalf seven = Texts.valley("", 0, 0, 0, 0, 0, 0, 0);
        seven.image();
        Check.due("the eighth", seven.person(MODEST), 7);
        seven.see(2, 7, 5);
        Check.due("restore()", seven.restore(), 7);
        Check.due("seen by who is gone", seven.drop(2), NONE);
        Check.due("kind(7)", seven.kind(7), UNKNOWN);
        Check.due("kind(6)", seven.kind(6), TELLER);
        Check.due("another eighth", seven.person(DOCTOR), 7);
        Check.due("kind(7)", seven.kind(7), DOCTOR);
    }

    private static void whomTheyKnow() {
        Check.sentence("An IMAGE keeps whom they KNOW");
        GrowsByHalf x = Texts.valley("", 0, 0, 0, 0, 0, 0, 0, 0);
        for (int pair = 0; pair < 64; pair++) {
            x.knows(pair / 8, pair % 8, pair % 3 == 0);
        }
        x.image();
        for (int pair = 0; pair < 64; pair++) {
            x.knows(pair / 8, pair % 8, pair % 3 != 0);
        }
        x.restore();
        for (int pair = 0; pair < 64; pair++) {
            if (pair / 8 != pair % 8) {
                int due = pair % 3 == 0 ? 1 : 0;
                Check.due("knows " + pair, x.knows(pair / 8, pair % 8, due == 0), due);
            }
        }
        x.restore();
        for (int pair = 0; pair < 64; pair++) {
            if (pair / 8 != pair % 8) {
                Check.due("again " + pair, x.knows(pair / 8, pair % 8, true), pair % 3 == 0 ? 1 : 0);
            }
        }
    }

    private static void whatWasSeen() {
        Check.sentence("An IMAGE keeps what was SEEN by whom");
        GrowsByHalf x = Texts.valley("", 0, 0, 0, 0);
        x.see(0, 0, 0);
        x.see(1, 3, 9999);
        x.see(2, 1, 7);
        x.image();
        for (int time = 0; time < 2; time++) {
            x.see(0, 1, 5);
            x.see(1, 3, 5);
            x.drop(2);
            x.see(3, 2, 5);
            x.restore();
            Check.due("size(0, 0)", x.size(0, 0), 0);
            Check.due("size(1, 0)", x.size(1, 0), NONE);
            Check.due("size(3, 1)", x.size(3, 1), 9999);
            Check.due("size(1, 2)", x.size(1, 2), 7);
            Check.due("size(2, 3)", x.size(2, 3), NONE);
            Check.due("count(3)", x.count(3), 3);
        }
        Check.due("drop(1)", x.drop(1), 3);
        Check.due("drop(3)", x.drop(3), NONE);
    }

    private static void notKept() {
        Check.sentence("It goes on from the IMAGE: law, week, page and what was counted are as they are");
        GrowsByHalf x = Texts.valley("01", TELLER, TELLER);
        Texts.write(x, "hh");
        x.chain(0, 1, 0, 1, 0);
        x.image();
        x.blank();
        Texts.law(x, "+1+2d");
        Texts.week(x, "10,01,10");
        Texts.write(x, "d+4");
        x.chain(0, 1, 0, 1, 0);
        int[] due = {2, 3, 3, 0, 3, 1, 2, 2};
        for (int time = 0; time < 2; time++) {
            for (int what = 0; what < 8; what++) {
                Check.due("count(" + what + ")", x.count(what), due[what]);
            }
            Check.due("grown(0)", x.grown(0), 6);
            Check.due("telling(2, 0)", x.telling(2, 0), 1);
            Check.due("fault(0)", x.fault(0), 3);
            Check.due("restore()", x.restore(), 2);
        }
        Check.due("law() of the page", x.law(), 2);
        Check.due("grown(3)", x.grown(3), 10);
    }

    private static void againAndAgain() {
        Check.sentence("An object is used for at most 512 calls: image() and restore() time and again");
        GrowsByHalf x = new GrowsByHalf();
        for (int round = 0; round < 100; round++) {
            int people = x.image();
            Check.due("people", people, Math.min(8, round / 2));
            int next = x.person(round % 4);
            Check.due("the next", next, people < 8 ? people : FULL);
            Check.due("restore()", x.restore(), people);
            if (round % 2 == 1) {
                x.person((round / 2) % 4);
            }
        }
        for (int person = 0; person < 8; person++) {
            Check.due("kind", x.kind(person), person % 4);
        }
    }

    private static void countsOfEach() {
        Check.sentence("How many: 0 PEOPLE, 1 STEPS, 2 TELLINGS, 3 TALES, 4 letters, 5 laws, 6 weeks, 7 chains");
        GrowsByHalf x = new GrowsByHalf();
        counts(x, 0, 1, 0, 0, 0, 0, 0, 0);
        for (int person = 0; person < 8; person++) {
            x.person(person % 4);
        }
        Texts.law(x, "hd+1-1");
        Texts.week(x, SIXTEEN);
        for (int tale = 0; tale < 4; tale++) {
            x.see(tale, tale, 0);
            x.see(tale, tale + 1, 0);
        }
        for (int time = 0; time < 40; time++) {
            x.letters('~');
            x.chain(0, 1, 0, 1, time % 3);
        }
        x.letters(0x4141414141414141L);
        x.letters(0x4141L);
        counts(x, 8, 4, 16, 4, 50, 1, 1, 27);
        for (int time = 0; time < 10; time++) {
            x.chain(0, 1, 1, 1, 0);
            x.law();
            x.week();
        }
        counts(x, 8, 4, 16, 4, 50, 1, 1, 30);
        x.blank();
        x.drop(0);
        x.drop(0);
        Texts.law(x, "h");
        Texts.law(x, "h");
        Texts.week(x, "01");
        counts(x, 8, 1, 1, 3, 0, 3, 2, 30);
    }

    private static void counts(GrowsByHalf x, int... due) {
        for (int what = 0; what < due.length; what++) {
            Check.due("count(" + what + ")", x.count(what), due[what]);
        }
    }

    private static void countRefused() {
        Check.sentence("count: OUTSIDE");
        GrowsByHalf x = new GrowsByHalf();
        for (int none : new int[] {MIN, -2, -1, 8, 9, MAX}) {
            Check.due("count(" + none + ")", x.count(none), OUTSIDE);
        }
        Check.due("count(0)", x.count(0), 0);
        Check.due("count(7)", x.count(7), 0);
    }

    /** What the digest is due to take in, by the calls that tell it. */
    private static List<Long> numbersOf(GrowsByHalf x, String page) {
        List<Long> numbers = new ArrayList<>();
        for (int size : new int[] {1, 10, 100, 1000}) {
            numbers.add((long) x.grown(size));
        }
        for (int telling = 0; telling < x.count(2); telling++) {
            numbers.add((long) x.telling(telling, 0));
            numbers.add((long) x.telling(telling, 1));
        }
        int people = x.count(0);
        for (int person = 0; person < people; person++) {
            numbers.add((long) x.kind(person));
            numbers.add((long) x.tells(person, 10));
            for (int tale = 0; tale < 4; tale++) {
                numbers.add((long) x.size(person, tale));
                numbers.add((long) x.from(person, tale));
            }
        }
        if (people >= 2) {
            numbers.add((long) x.one(0, 3, 1, 4));
        }
        for (int person = 0; person < people; person++) {
            numbers.add((long) x.ask(person));
        }
        numbers.add((long) x.likeliest(3, 5, 20));
        for (char letter : page.toCharArray()) {
            numbers.add((long) letter);
        }
        for (int what = 0; what < 8; what++) {
            numbers.add((long) x.count(what));
        }
        return numbers;
    }

    private static long mixed(List<Long> numbers) {
        long h = 631;
        for (long number : numbers) {
            h = 31 * h + number;
        }
        return h;
    }

    private static void digestOfPeople() {
        Check.sentence("digest: what one() tells of 0 with 3, 1 with 4, if there are two PEOPLE; ASK for each PERSON");
        GrowsByHalf x = new GrowsByHalf();
        for (int people = 0; people <= 4; people++) {
            Check.due("of " + people, x.digest(), mixed(numbersOf(x, "")));
            x.person(people % 4);
        }
        GrowsByHalf two = Texts.valley("01", TELLER, TELLER);
        long[] numbers = {1, 15, 150, 1500, 0, 1, 0, 15, -1, -1, -1, -1, -1, -1, -1, -1,
            0, 15, -1, -1, -1, -1, -1, -1, -1, -1, 1, 1, 0, 20, 2, 1, 1, 0, 0, 0, 1, 0};
        long h = 631;
        for (long number : numbers) {
            h = 31 * h + number;
        }
        Check.due("of two, by hand", two.digest(), h);
    }

    private static void digestInOrder() {
        Check.sentence("digest: then for each of these numbers, in order");
        GrowsByHalf x = Texts.valley(SIXTEEN, 3, 0, 1, 2, 0, 3, 2, 1);
        Texts.law(x, "h+1/2d");
        for (int tale = 0; tale < 4; tale++) {
            x.see(tale, 7 - 2 * tale, 9999 - 3000 * tale);
        }
        x.chain(0, 1, 0, 1, 0);
        String page = "";
        for (char letter = '~'; page.length() < 50; letter--) {
            x.letters(letter);
            page += letter;
        }
        Check.due("of all that there can be", x.digest(), mixed(numbersOf(x, page)));
        GrowsByHalf empty = new GrowsByHalf();
        empty.letters(0x7E01L);
        Check.due("of the least and the greatest code", empty.digest(), mixed(numbersOf(empty, "\u0001~")));
    }

    /** By these two laws likeliest() tells something else of 2 or 4, of 4 or 6, of 19 or 21. */
    private static void digestOfLikeliest() {
        Check.sentence("digest: what likeliest() tells of 3, 5, 20");
        int[] due = {18, 21};
        for (int at = 0; at < 2; at++) {
            GrowsByHalf x = new GrowsByHalf();
            Texts.law(x, at == 0 ? "+1" : "-1");
            Check.due("likeliest(3, 5, 20)", x.likeliest(3, 5, 20), due[at]);
            Check.due("digest()", x.digest(), mixed(numbersOf(x, "")));
        }
    }

    /** The sums without an end take far more than a long holds; the digest is their last 64 bits. */
    private static void digestWraps() {
        Check.sentence("digest: (as longs, wrapping)");
        for (int letters = 0; letters <= 50; letters += 5) {
            GrowsByHalf x = new GrowsByHalf();
            String page = "";
            for (int letter = 0; letter < letters; letter++) {
                x.letters(65 + letter);
                page += (char) (65 + letter);
            }
            BigInteger h = BigInteger.valueOf(631);
            for (long number : numbersOf(x, page)) {
                h = h.multiply(BigInteger.valueOf(31)).add(BigInteger.valueOf(number));
            }
            Check.due("of " + letters + " letters", x.digest(), h.longValue());
            Check.due("is above what a long holds", h.bitLength() > 63 ? 1 : 0, 1);
        }
    }

    private static void digestChangesNothing() {
        Check.sentence("digest: it tells, and changes nothing");
        GrowsByHalf x = Texts.valley(SIXTEEN, 3, 0, 1, 2, 0, 3, 2, 1);
        x.see(0, 0, 5);
        x.see(3, 4, 50);
        Texts.write(x, "page");
        long h = x.digest();
        for (int time = 0; time < 20; time++) {
            Check.due("again", x.digest(), h);
        }
        Check.due("count(7)", x.count(7), 0);
        Check.due("blank()", x.blank(), 4);
        Check.due("another one by another page", x.digest() != h ? 1 : 0, 1);
    }
}
