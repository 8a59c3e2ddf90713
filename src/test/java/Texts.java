/** Brings texts to a page by letters(), and makes objects that tests begin with. */
final class Texts {
    private Texts() {
    }

    /** Up to eight letters of a text, from a place on, in the bytes of a long. */
    static long packed(String text, int from) {
        long w = 0;
        for (int at = Math.min(text.length(), from + 8) - 1; at >= from; at--) {
            w = w << 8 | text.charAt(at);
        }
        return w;
    }

    static void write(GrowsByHalf x, String text) {
        for (int from = 0; from < text.length(); from += 8) {
            x.letters(packed(text, from));
        }
    }

    static int law(GrowsByHalf x, String text) {
        write(x, text);
        return x.law();
    }

    static int week(GrowsByHalf x, String text) {
        write(x, text);
        return x.week();
    }

    /** People of these kinds; a week, if the text has one. */
    static GrowsByHalf valley(String week, int... kinds) {
        GrowsByHalf x = new GrowsByHalf();
        for (int kind : kinds) {
            x.person(kind);
        }
        if (!week.isEmpty()) {
            week(x, week);
        }
        return x;
    }

    /** Each knows the next one, in a ring. */
    static void ring(GrowsByHalf x, int people) {
        for (int person = 0; person < people; person++) {
            x.knows(person, (person + 1) % people, true);
        }
    }
}
