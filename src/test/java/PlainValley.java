import java.util.ArrayList;
import java.util.HashMap;
import java.util.List;
import java.util.Map;
import java.util.regex.Pattern;

/**
 * The document once more, in another form: each answer is found by trying all that the document
 * names, without the short ways of the class. The random runs compare the two.
 */
final class PlainValley {
    static final int NONE = -1, UNKNOWN = -101, OUTSIDE = -102, STATE = -103, FULL = -104;

    private static final Pattern LAW = Pattern.compile("(h|d|\\+[0-9]|-[0-9]|/[2-9]){1,4}");
    private static final Pattern WEEK = weekPattern();
    private static final String[] LAW_ENDS = {"", "h", "2"};
    private static final String[] WEEK_ENDS = {"", "0", "1", "01"};

    private String page = "";
    private String law = "h";
    private Map<Integer, Integer> grownSizes = new HashMap<>();
    private List<int[]> week = new ArrayList<>();
    private List<Integer> kinds = new ArrayList<>();
    private boolean[][] known = new boolean[8][8];
    private int[][] seen = new int[4][];
    private int imagePeople = NONE;
    private boolean[][] imageKnown;
    private int[][] imageSeen;
    private int lawsRead = 0;
    private int weeksRead = 0;
    private int chainsDone = 0;

    private static Pattern weekPattern() {
        StringBuilder pairs = new StringBuilder();
        for (int who = 0; who < 8; who++) {
            for (int whom = 0; whom < 8; whom++) {
                if (who != whom) {
                    pairs.append(pairs.length() == 0 ? "" : "|").append(who).append(whom);
                }
            }
        }
        return Pattern.compile("(" + pairs + ")(,(" + pairs + ")){0,15}");
    }

    int letters(long w) {
        StringBuilder more = new StringBuilder();
        boolean ended = false;
        for (int at = 0; at < 8; at++) {
            int code = (int) ((w >>> (8 * at)) & 0xFF);
            if (code > 126 || (ended && code != 0)) {
                return OUTSIDE;
            }
            ended = ended || code == 0;
            if (code != 0) {
                more.append((char) code);
            }
        }
        if ((page + more).length() > 50) {
            return FULL;
        }
        page = page + more;
        return page.length();
    }

    int blank() {
        int before = page.length();
        page = "";
        return before;
    }

    int fault(int sort) {
        if (sort != 0 && sort != 1) {
            return OUTSIDE;
        }
        int place = 0;
        while (place < page.length() && begins(page.substring(0, place + 1), sort)) {
            place++;
        }
        return place;
    }

    private static boolean begins(String text, int sort) {
        for (String end : sort == 0 ? LAW_ENDS : WEEK_ENDS) {
            if ((sort == 0 ? LAW : WEEK).matcher(text + end).matches()) {
                return true;
            }
        }
        return false;
    }

    int law() {
        if (!LAW.matcher(page).matches()) {
            return STATE;
        }
        law = page;
        page = "";
        grownSizes = new HashMap<>();
        lawsRead++;
        return steps();
    }

    private int steps() {
        return law.replaceAll("[0-9]", "").length();
    }

    int week() {
        if (!WEEK.matcher(page).matches()) {
            return STATE;
        }
        week = new ArrayList<>();
        for (String telling : page.split(",")) {
            week.add(new int[] {telling.charAt(0) - '0', telling.charAt(1) - '0'});
        }
        page = "";
        weeksRead++;
        return week.size();
    }

    private int make(int size) {
        Integer ready = grownSizes.get(size);
        if (ready != null) {
            return ready;
        }
        long now = size;
        for (String step : law.split("(?=[hd+/-])")) {
            long digit = step.length() > 1 ? step.charAt(1) - '0' : 0;
            switch (step.charAt(0)) {
                case 'h' -> now = (3 * now) / 2;
                case 'd' -> now = now + now;
                case '+' -> now = now + digit;
                case '-' -> now = now < digit ? 0 : now - digit;
                case '/' -> now = now / digit;
                default -> throw new IllegalStateException(step);
            }
            now = now > 9999 ? 9999 : now;
        }
        grownSizes.put(size, (int) now);
        return (int) now;
    }

    int grown(int size) {
        return isSize(size) ? make(size) : OUTSIDE;
    }

    int telling(int telling, int what) {
        if (telling < 0 || telling >= week.size()) {
            return UNKNOWN;
        }
        return what == 0 || what == 1 ? week.get(telling)[what] : OUTSIDE;
    }

    int person(int kind) {
        if (kind < 0 || kind > 3) {
            return OUTSIDE;
        }
        if (kinds.size() == 8) {
            return FULL;
        }
        kinds.add(kind);
        return kinds.size() - 1;
    }

    int kind(int person) {
        return isPerson(person) ? kinds.get(person) : UNKNOWN;
    }

    int as(int person, int kind) {
        if (!isPerson(person)) {
            return UNKNOWN;
        }
        if (kind < 0 || kind > 3) {
            return OUTSIDE;
        }
        boolean[][] such = {
            {true, false, false, false},
            {true, true, false, false},
            {true, true, true, false},
            {true, false, false, true}};
        return such[kinds.get(person)][kind] ? person : NONE;
    }

    int tells(int person, int size) {
        if (!isPerson(person)) {
            return UNKNOWN;
        }
        return isSize(size) ? told(kinds.get(person), size) : OUTSIDE;
    }

    private int told(int kind, int size) {
        return kind == 0 ? make(size) : kind == 1 ? size : kind == 2 ? size / 2 : make(make(size));
    }

    int knows(int a, int b, boolean is) {
        if (!isPerson(a) || !isPerson(b) || a == b) {
            return UNKNOWN;
        }
        boolean before = known[a][b];
        known[a][b] = is;
        return before ? 1 : 0;
    }

    int see(int tale, int person, int size) {
        if (tale < 0 || tale > 3 || !isPerson(person)) {
            return UNKNOWN;
        }
        if (!isSize(size)) {
            return OUTSIDE;
        }
        int before = seen[tale] == null ? NONE : seen[tale][0];
        seen[tale] = new int[] {person, size};
        return before;
    }

    int drop(int tale) {
        if (tale < 0 || tale > 3) {
            return UNKNOWN;
        }
        int before = seen[tale] == null ? NONE : seen[tale][0];
        seen[tale] = null;
        return before;
    }

    /** By person: the size, and from whom; null: does not have it. */
    private int[][] behindWeek(int[] seenBy, int modestOne) {
        int[][] has = new int[8][];
        if (seenBy == null) {
            return has;
        }
        has[seenBy[0]] = new int[] {seenBy[1], NONE};
        for (int[] telling : week) {
            if (isPerson(telling[0]) && isPerson(telling[1])) {
                tell(has, telling[0], telling[1], telling[0] == modestOne);
            }
        }
        return has;
    }

    private void tell(int[][] has, int who, int whom, boolean asModest) {
        if (has[who] != null) {
            int told = told(asModest ? 1 : kinds.get(who), has[who][0]);
            if (has[whom] == null || has[whom][0] < told) {
                has[whom] = new int[] {told, who};
            }
        }
    }

    int size(int person, int tale) {
        if (!isPerson(person) || tale < 0 || tale > 3) {
            return UNKNOWN;
        }
        int[] has = behindWeek(seen[tale], NONE)[person];
        return has == null ? NONE : has[0];
    }

    int from(int person, int tale) {
        if (!isPerson(person) || tale < 0 || tale > 3) {
            return UNKNOWN;
        }
        int[] has = behindWeek(seen[tale], NONE)[person];
        return has == null ? NONE : has[1];
    }

    int firsts(int tale, int person, int size, int what) {
        if (tale < 0 || tale > 3 || !isPerson(person)) {
            return UNKNOWN;
        }
        if (!isSize(size) || what < 0 || what > 2) {
            return OUTSIDE;
        }
        if (seen[tale] == null) {
            return STATE;
        }
        List<Integer> all = new ArrayList<>();
        for (int first = 0; first <= 999; first++) {
            int[] has = behindWeek(new int[] {seen[tale][0], first}, NONE)[person];
            if (has != null && has[0] == size) {
                all.add(first);
            }
        }
        if (what == 0) {
            return all.size();
        }
        return all.isEmpty() ? NONE : what == 1 ? all.get(0) : all.get(all.size() - 1);
    }

    int modest(int tale, int person, int size) {
        if (tale < 0 || tale > 3 || !isPerson(person)) {
            return UNKNOWN;
        }
        if (!isSize(size)) {
            return OUTSIDE;
        }
        if (seen[tale] == null) {
            return STATE;
        }
        int bits = 0;
        for (int one = 0; one < kinds.size(); one++) {
            int[] has = behindWeek(seen[tale], one)[person];
            if (as(one, 1) == NONE && has != null && has[0] == size) {
                bits += 1 << one;
            }
        }
        return bits;
    }

    int one(int a, int v, int b, int w) {
        if (!isPerson(a) || !isPerson(b) || a == b) {
            return UNKNOWN;
        }
        if (!isSize(v) || !isSize(w)) {
            return OUTSIDE;
        }
        int ways = 0;
        for (int witness = 0; witness < kinds.size(); witness++) {
            for (int first = 0; first <= 999; first++) {
                int[][] has = behindWeek(new int[] {witness, first}, NONE);
                if (has[a] != null && has[b] != null && has[a][0] == v && has[b][0] == w) {
                    ways++;
                }
            }
        }
        return ways;
    }

    int ask(int witness) {
        if (!isPerson(witness)) {
            return UNKNOWN;
        }
        int best = NONE;
        int least = Integer.MAX_VALUE;
        for (int person = 0; person < kinds.size(); person++) {
            Map<Integer, Integer> alike = new HashMap<>();
            int greatest = 0;
            for (int first = 1; first <= 99 && person != witness; first++) {
                int[] has = behindWeek(new int[] {witness, first}, NONE)[person];
                greatest = Math.max(greatest, alike.merge(has == null ? NONE : has[0], 1, Integer::sum));
            }
            if (person != witness && greatest < least) {
                best = person;
                least = greatest;
            }
        }
        return best;
    }

    int chain(int from, int size, int to, int wanted, int what) {
        if (!isPerson(from) || !isPerson(to)) {
            return UNKNOWN;
        }
        if (!isSize(size) || !isSize(wanted) || what < 0 || what > 1) {
            return OUTSIDE;
        }
        if (chainsDone == 30) {
            return STATE;
        }
        chainsDone++;
        if (from == to && size == wanted) {
            return what == 0 ? 0 : NONE;
        }
        int fewest = NONE;
        int first = NONE;
        for (int next = 0; next < kinds.size(); next++) {
            if (known[from][next]) {
                int more = tellings(next, told(kinds.get(from), size), to, wanted);
                if (more != NONE && (fewest == NONE || more + 1 < fewest)) {
                    fewest = more + 1;
                    first = next;
                }
            }
        }
        return what == 0 ? fewest : first;
    }

    /** The fewest, up to 19. */
    private int tellings(int from, int size, int to, int wanted) {
        boolean[][] met = new boolean[8][10000];
        List<int[]> now = new ArrayList<>();
        now.add(new int[] {from, size});
        met[from][size] = true;
        for (int tellings = 0; tellings <= 19; tellings++) {
            if (met[to][wanted]) {
                return tellings;
            }
            List<int[]> next = new ArrayList<>();
            for (int[] state : now) {
                int told = told(kinds.get(state[0]), state[1]);
                for (int whom = 0; whom < kinds.size(); whom++) {
                    if (known[state[0]][whom] && !met[whom][told]) {
                        met[whom][told] = true;
                        next.add(new int[] {whom, told});
                    }
                }
            }
            now = next;
        }
        return NONE;
    }

    long chance(int tellers, int tenths, int first, int size, int part) {
        if (tellers < 1 || tellers > 9 || tenths < 0 || tenths > 10) {
            return OUTSIDE;
        }
        if (!isSize(first) || !isSize(size) || part < 0 || part > 1) {
            return OUTSIDE;
        }
        long above = ways(tellers, tenths, first, size);
        long below = 1;
        for (int at = 0; at < tellers; at++) {
            below *= 10;
        }
        for (long prime : new long[] {2, 5}) {
            while (above % prime == 0 && below % prime == 0) {
                above /= prime;
                below /= prime;
            }
        }
        return part == 0 ? above : below;
    }

    private long ways(int tellers, int tenths, int first, int size) {
        if (tellers == 0) {
            return first == size ? 1 : 0;
        }
        return tenths * ways(tellers - 1, tenths, first, size)
            + (10 - tenths) * ways(tellers - 1, tenths, make(first), size);
    }

    int likeliest(int tellers, int tenths, int size) {
        if (tellers < 1 || tellers > 9 || tenths < 0 || tenths > 10 || !isSize(size)) {
            return OUTSIDE;
        }
        int best = NONE;
        long most = 0;
        for (int first = 1; first <= 99; first++) {
            long ways = ways(tellers, tenths, first, size);
            if (ways > most) {
                most = ways;
                best = first;
            }
        }
        return best;
    }

    int gossip(int times, int seed, int what) {
        if (times < 1 || times > 60 || seed < 0 || what < 0 || what > 2) {
            return OUTSIDE;
        }
        if (kinds.size() < 2) {
            return STATE;
        }
        int[][] has = new int[8][];
        if (seen[0] != null) {
            has[seen[0][0]] = new int[] {seen[0][1], NONE};
        }
        long now = seed;
        for (int time = 0; time < times; time++) {
            now = (1103515245L * now + 12345) & 0x7FFFFFFFL;
            int who = (int) ((now >> 16) % kinds.size());
            now = (1103515245L * now + 12345) & 0x7FFFFFFFL;
            List<Integer> others = new ArrayList<>();
            for (int person = 0; person < kinds.size(); person++) {
                if (person != who) {
                    others.add(person);
                }
            }
            tell(has, who, others.get((int) ((now >> 16) % others.size())), false);
        }
        int having = 0;
        int biggest = NONE;
        for (int[] one : has) {
            having += one == null ? 0 : 1;
            biggest = one == null ? biggest : Math.max(biggest, one[0]);
        }
        return what == 0 ? having : what == 1 ? biggest : (int) now;
    }

    int image() {
        imagePeople = kinds.size();
        imageKnown = deepCopy(known);
        imageSeen = seen.clone();
        return imagePeople;
    }

    int restore() {
        if (imagePeople == NONE) {
            return STATE;
        }
        kinds = new ArrayList<>(kinds.subList(0, imagePeople));
        known = deepCopy(imageKnown);
        seen = imageSeen.clone();
        return imagePeople;
    }

    private static boolean[][] deepCopy(boolean[][] rows) {
        boolean[][] copy = new boolean[rows.length][];
        for (int at = 0; at < rows.length; at++) {
            copy[at] = rows[at].clone();
        }
        return copy;
    }

    int count(int what) {
        int talesSeen = 0;
        for (int[] one : seen) {
            talesSeen += one == null ? 0 : 1;
        }
        int[] counts = {
            kinds.size(), steps(), week.size(), talesSeen, page.length(), lawsRead, weeksRead, chainsDone};
        return what < 0 || what > 7 ? OUTSIDE : counts[what];
    }

    long digest() {
        List<Long> all = new ArrayList<>();
        for (int size : new int[] {1, 10, 100, 1000}) {
            all.add((long) make(size));
        }
        for (int[] telling : week) {
            all.add((long) telling[0]);
            all.add((long) telling[1]);
        }
        for (int person = 0; person < kinds.size(); person++) {
            all.add((long) kind(person));
            all.add((long) tells(person, 10));
            for (int tale = 0; tale < 4; tale++) {
                all.add((long) size(person, tale));
                all.add((long) from(person, tale));
            }
        }
        if (kinds.size() >= 2) {
            all.add((long) one(0, 3, 1, 4));
        }
        for (int person = 0; person < kinds.size(); person++) {
            all.add((long) ask(person));
        }
        all.add((long) likeliest(3, 5, 20));
        for (char letter : page.toCharArray()) {
            all.add((long) letter);
        }
        for (int what = 0; what <= 7; what++) {
            all.add((long) count(what));
        }
        long h = 631;
        for (long number : all) {
            h = 31 * h + number;
        }
        return h;
    }

    int people() {
        return kinds.size();
    }

    private boolean isPerson(int person) {
        return person >= 0 && person < kinds.size();
    }

    private static boolean isSize(int size) {
        return size >= 0 && size <= 9999;
    }
}
