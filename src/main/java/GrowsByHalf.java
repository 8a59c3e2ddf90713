import java.util.Arrays;

/** A valley in which tales grow at each telling. ../shared/DOC.md tells what each call answers. */
public final class GrowsByHalf {
    public static final int NONE = -1, UNKNOWN = -101, OUTSIDE = -102, STATE = -103, FULL = -104;

    private static final int TELLER = 0, MODEST = 1, DOCTOR = 2, BRAGGART = 3;
    private static final int KINDS = 4;
    private static final int MOST_PEOPLE = 8;
    private static final int TALES = 4;
    private static final int SIZES = 10000;
    private static final int FIRST_SIZES = 1000;
    private static final int MOST_ASKED_SIZE = 99;
    private static final int MOST_CHAINS = 30;
    private static final int MOST_TELLERS = 9;
    private static final int MOST_TIMES = 60;

    private final Page page = new Page();
    private final Law lawNow = new Law();
    private final Week weekNow = new Week();
    private final Folk folk = new Folk();
    private final Folk imageKept = new Folk();
    private final Rumour rumour = new Rumour();
    private final Alike alike = new Alike();
    private final Chains chains = new Chains();
    private final Odds odds = new Odds();
    private final Draws draws = new Draws();
    private boolean hasImage;

    /** What is held begins as a new object has it. */
    public GrowsByHalf() {
    }

    // ---- texts

    public int letters(long w) {
        int more = Page.lettersIn(w);
        if (more == NONE) {
            return OUTSIDE;
        }
        if (!page.hasRoomFor(more)) {
            return FULL;
        }
        page.append(w, more);
        return page.length();
    }

    public int blank() {
        int before = page.length();
        page.clear();
        return before;
    }

    public int fault(int sort) {
        if (sort == 0) {
            return Law.faultIn(page);
        }
        return sort == 1 ? Week.faultIn(page) : OUTSIDE;
    }

    public int law() {
        if (!Law.isLaw(page)) {
            return STATE;
        }
        lawNow.read(page);
        page.clear();
        return lawNow.steps();
    }

    public int week() {
        if (!Week.isWeek(page)) {
            return STATE;
        }
        weekNow.read(page);
        page.clear();
        return weekNow.tellings();
    }

    public int grown(int size) {
        return isSize(size) ? lawNow.makes(size) : OUTSIDE;
    }

    public int telling(int telling, int what) {
        if (!weekNow.has(telling)) {
            return UNKNOWN;
        }
        if (!isWithin(what, 0, 1)) {
            return OUTSIDE;
        }
        return what == 0 ? weekNow.who(telling) : weekNow.whom(telling);
    }

    // ---- people

    public int person(int kind) {
        if (!isKind(kind)) {
            return OUTSIDE;
        }
        return folk.hasRoom() ? folk.add(kind) : FULL;
    }

    public int kind(int person) {
        return folk.has(person) ? folk.kindOf(person) : UNKNOWN;
    }

    public int as(int person, int kind) {
        if (!folk.has(person)) {
            return UNKNOWN;
        }
        if (!isKind(kind)) {
            return OUTSIDE;
        }
        return isSuch(folk.kindOf(person), kind) ? person : NONE;
    }

    public int tells(int person, int size) {
        if (!folk.has(person)) {
            return UNKNOWN;
        }
        return isSize(size) ? lawNow.toldBy(folk.kindOf(person), size) : OUTSIDE;
    }

    public int knows(int a, int b, boolean is) {
        if (!folk.hasBoth(a, b)) {
            return UNKNOWN;
        }
        int before = folk.isKnown(a, b) ? 1 : 0;
        folk.setKnown(a, b, is);
        return before;
    }

    // ---- tales

    public int see(int tale, int person, int size) {
        if (!isTale(tale) || !folk.has(person)) {
            return UNKNOWN;
        }
        return isSize(size) ? folk.setSeen(tale, person, size) : OUTSIDE;
    }

    public int drop(int tale) {
        return isTale(tale) ? folk.setSeen(tale, NONE, 0) : UNKNOWN;
    }

    public int size(int person, int tale) {
        if (!folk.has(person) || !isTale(tale)) {
            return UNKNOWN;
        }
        spread(folk.witnessOf(tale), folk.seenSizeOf(tale), NONE);
        return rumour.sizeAt(person);
    }

    public int from(int person, int tale) {
        if (!folk.has(person) || !isTale(tale)) {
            return UNKNOWN;
        }
        spread(folk.witnessOf(tale), folk.seenSizeOf(tale), NONE);
        return rumour.fromAt(person);
    }

    // ---- what it was

    public int firsts(int tale, int person, int size, int what) {
        if (!isTale(tale) || !folk.has(person)) {
            return UNKNOWN;
        }
        if (!isSize(size) || !isWithin(what, 0, 2)) {
            return OUTSIDE;
        }
        int witness = folk.witnessOf(tale);
        if (witness == NONE) {
            return STATE;
        }
        int least = firstsBelow(witness, person, size);
        int behind = firstsBelow(witness, person, size + 1);
        if (what == 0) {
            return behind - least;
        }
        if (least == behind) {
            return NONE;
        }
        return what == 1 ? least : behind - 1;
    }

    public int modest(int tale, int person, int size) {
        if (!isTale(tale) || !folk.has(person)) {
            return UNKNOWN;
        }
        if (!isSize(size)) {
            return OUTSIDE;
        }
        int witness = folk.witnessOf(tale);
        if (witness == NONE) {
            return STATE;
        }
        int ones = 0;
        for (int each = 0; each < folk.people(); each++) {
            if (!isSuch(folk.kindOf(each), MODEST)) {
                spread(witness, folk.seenSizeOf(tale), each);
                ones |= rumour.sizeAt(person) == size ? 1 << each : 0;
            }
        }
        return ones;
    }

    public int one(int a, int v, int b, int w) {
        if (!folk.hasBoth(a, b)) {
            return UNKNOWN;
        }
        if (!isSize(v) || !isSize(w)) {
            return OUTSIDE;
        }
        int ways = 0;
        for (int witness = 0; witness < folk.people(); witness++) {
            int least = Math.max(firstsBelow(witness, a, v), firstsBelow(witness, b, w));
            int behind = Math.min(firstsBelow(witness, a, v + 1), firstsBelow(witness, b, w + 1));
            ways += Math.max(0, behind - least);
        }
        return ways;
    }

    public int ask(int witness) {
        if (!folk.has(witness)) {
            return UNKNOWN;
        }
        countAlike(witness);
        int best = NONE;
        int fewest = 0;
        for (int person = 0; person < folk.people(); person++) {
            int most = alike.mostOf(person);
            if (person != witness && (best == NONE || most < fewest)) {
                best = person;
                fewest = most;
            }
        }
        return best;
    }

    // ---- chains, chances

    public int chain(int from, int size, int to, int wanted, int what) {
        if (!folk.has(from) || !folk.has(to)) {
            return UNKNOWN;
        }
        if (!isSize(size) || !isSize(wanted) || !isWithin(what, 0, 1)) {
            return OUTSIDE;
        }
        if (chains.done() >= MOST_CHAINS) {
            return STATE;
        }
        chains.search(folk, lawNow, Chains.stateOf(from, size), Chains.stateOf(to, wanted));
        return what == 0 ? chains.fewest() : chains.toFirst();
    }

    public long chance(int tellers, int tenths, int first, int size, int part) {
        if (!isWithin(tellers, 1, MOST_TELLERS) || !isWithin(tenths, 0, 10)) {
            return OUTSIDE;
        }
        if (!isSize(first) || !isSize(size) || !isWithin(part, 0, 1)) {
            return OUTSIDE;
        }
        odds.weigh(tellers, tenths);
        long above = odds.waysFrom(lawNow, first, size);
        long below = odds.allWays();
        long divisor = greatestDivisor(above, below);
        return (part == 0 ? above : below) / divisor;
    }

    public int likeliest(int tellers, int tenths, int size) {
        if (!isWithin(tellers, 1, MOST_TELLERS) || !isWithin(tenths, 0, 10) || !isSize(size)) {
            return OUTSIDE;
        }
        odds.weigh(tellers, tenths);
        int best = NONE;
        long most = 0;
        for (int first = 1; first <= MOST_ASKED_SIZE; first++) {
            long ways = odds.waysFrom(lawNow, first, size);
            if (ways > most) {
                best = first;
                most = ways;
            }
        }
        return best;
    }

    public int gossip(int times, int seed, int what) {
        if (!isWithin(times, 1, MOST_TIMES) || seed < 0 || !isWithin(what, 0, 2)) {
            return OUTSIDE;
        }
        if (folk.people() < 2) {
            return STATE;
        }
        gossipTaleZero(times, seed);
        if (what == 0) {
            return rumour.howManyHaveIt();
        }
        return what == 1 ? rumour.biggest() : draws.seed();
    }

    // ---- what is told of all

    public int image() {
        imageKept.takeAll(folk);
        hasImage = true;
        return imageKept.people();
    }

    public int restore() {
        if (!hasImage) {
            return STATE;
        }
        folk.takeAll(imageKept);
        return folk.people();
    }

    public int count(int what) {
        switch (what) {
            case 0: return folk.people();
            case 1: return lawNow.steps();
            case 2: return weekNow.tellings();
            case 3: return folk.talesSeen();
            case 4: return page.length();
            case 5: return lawNow.readings();
            case 6: return weekNow.readings();
            case 7: return chains.done();
            default: return OUTSIDE;
        }
    }

    public long digest() {
        long h = 631;
        for (int size = 1; size <= 1000; size *= 10) {
            h = mixed(h, grown(size));
        }
        for (int telling = 0; telling < weekNow.tellings(); telling++) {
            h = mixed(mixed(h, weekNow.who(telling)), weekNow.whom(telling));
        }
        h = peopleMixed(h);
        if (folk.people() >= 2) {
            h = mixed(h, one(0, 3, 1, 4));
        }
        for (int person = 0; person < folk.people(); person++) {
            h = mixed(h, ask(person));
        }
        h = mixed(h, likeliest(3, 5, 20));
        for (int place = 0; place < page.length(); place++) {
            h = mixed(h, page.letterAt(place));
        }
        for (int what = 0; what <= 7; what++) {
            h = mixed(h, count(what));
        }
        return h;
    }

    // ---- helpers

    private static boolean isWithin(int number, int least, int greatest) {
        return number >= least && number <= greatest;
    }

    private static boolean isSize(int size) {
        return isWithin(size, 0, SIZES - 1);
    }

    private static boolean isTale(int tale) {
        return isWithin(tale, 0, TALES - 1);
    }

    private static boolean isKind(int kind) {
        return isWithin(kind, 0, KINDS - 1);
    }

    private static boolean isSuch(int kind, int asked) {
        return asked == TELLER || asked == kind || (asked == MODEST && kind == DOCTOR);
    }

    private static long mixed(long h, long number) {
        return 31 * h + number;
    }

    private long peopleMixed(long before) {
        long h = before;
        for (int person = 0; person < folk.people(); person++) {
            h = mixed(mixed(h, kind(person)), tells(person, 10));
            for (int tale = 0; tale < TALES; tale++) {
                h = mixed(mixed(h, size(person, tale)), from(person, tale));
            }
        }
        return h;
    }

    /** THE WEEK is told with one witness; modestOne (NONE: nobody) is taken as a MODEST. */
    private void spread(int witness, int size, int modestOne) {
        rumour.begin(witness, size);
        for (int telling = 0; telling < weekNow.tellings(); telling++) {
            int who = weekNow.who(telling);
            int whom = weekNow.whom(telling);
            if (folk.hasBoth(who, whom)) {
                tellOn(who, whom, who == modestOne ? MODEST : folk.kindOf(who));
            }
        }
    }

    private void tellOn(int who, int whom, int kind) {
        int size = rumour.sizeAt(who);
        if (size != NONE) {
            rumour.take(whom, lawNow.toldBy(kind, size), who);
        }
    }

    /**
     * How many first SIZES (0 to 999) let a person have less than a size, or not have it at all.
     * No STEP and no KIND makes a bigger size the smaller one, so these come ahead of all others,
     * and halving finds where they end; it is also the least first size that is enough (1000: none).
     */
    private int firstsBelow(int witness, int person, int size) {
        int below = 0;
        for (int stride = 512; stride > 0; stride /= 2) {
            int tried = below + stride;
            if (tried <= FIRST_SIZES) {
                spread(witness, tried - 1, NONE);
                below = rumour.sizeAt(person) < size ? tried : below;
            }
        }
        return below;
    }

    private void countAlike(int witness) {
        alike.clear();
        for (int size = 1; size <= MOST_ASKED_SIZE; size++) {
            spread(witness, size, NONE);
            for (int person = 0; person < folk.people(); person++) {
                alike.add(person, rumour.sizeAt(person));
            }
        }
    }

    private void gossipTaleZero(int times, int seed) {
        rumour.begin(folk.witnessOf(0), folk.seenSizeOf(0));
        draws.sow(seed);
        for (int time = 0; time < times; time++) {
            int who = draws.draw(folk.people());
            int other = draws.draw(folk.people() - 1);
            tellOn(who, other < who ? other : other + 1, folk.kindOf(who));
        }
    }

    private static long greatestDivisor(long above, long below) {
        long a = below;
        long b = above;
        // Euclid's rests halve every second time: 200 are more than any two longs need.
        for (int step = 0; step < 200 && b != 0; step++) {
            long rest = a % b;
            a = b;
            b = rest;
        }
        return a == 0 ? 1 : a;
    }

    /** THE PAGE. */
    private static final class Page {
        private static final int MOST_LETTERS = 50;
        private static final int MOST_CODE = 126;

        private final int[] codes = new int[MOST_LETTERS];
        private int length;

        /** How many letters stand in w; NONE: a byte of it is not as told. */
        static int lettersIn(long w) {
            int letters = 0;
            for (int at = 0; at < 8; at++) {
                int code = codeIn(w, at);
                if (code > MOST_CODE || (code != 0 && letters < at)) {
                    return NONE;
                }
                letters += code != 0 ? 1 : 0;
            }
            return letters;
        }

        private static int codeIn(long w, int at) {
            return (int) ((w >>> (8 * at)) & 255);
        }

        boolean hasRoomFor(int more) {
            return length + more <= MOST_LETTERS;
        }

        void append(long w, int more) {
            for (int at = 0; at < more && length < MOST_LETTERS; at++) {
                codes[length] = codeIn(w, at);
                length++;
            }
        }

        void clear() {
            length = 0;
        }

        int length() {
            return length;
        }

        /** A letter's code; NONE: there is no such place. */
        int letterAt(int place) {
            return place >= 0 && place < length ? codes[place] : NONE;
        }
    }

    /** THE LAW, and how big each KIND tells by it. */
    private static final class Law {
        private static final int MOST_STEPS = 4;

        private final int[] signs = new int[MOST_STEPS];
        private final int[] digits = new int[MOST_STEPS];
        // What it makes each size: the searches ask this far more often than a law is read.
        private final int[] made = new int[SIZES];
        private int steps;
        private int readings;

        Law() {
            addStep('h', 0);
            makeAll();
        }

        static int faultIn(Page page) {
            int opened = 0;
            for (int place = 0; place < page.length(); place++) {
                int before = page.letterAt(place - 1);
                int letter = page.letterAt(place);
                if (wantsDigit(before)) {
                    if (!isDigitOf(before, letter)) {
                        return place;
                    }
                } else if (opensStep(letter) && opened < MOST_STEPS) {
                    opened++;
                } else {
                    return place;
                }
            }
            return page.length();
        }

        static boolean isLaw(Page page) {
            int length = page.length();
            return length > 0 && faultIn(page) == length && !wantsDigit(page.letterAt(length - 1));
        }

        private static boolean opensStep(int letter) {
            return letter == 'h' || letter == 'd' || wantsDigit(letter);
        }

        private static boolean wantsDigit(int letter) {
            return letter == '+' || letter == '-' || letter == '/';
        }

        private static boolean isDigitOf(int sign, int letter) {
            return isWithin(letter, sign == '/' ? '2' : '0', '9');
        }

        void read(Page page) {
            steps = 0;
            for (int place = 0; place < page.length(); place++) {
                if (opensStep(page.letterAt(place))) {
                    addStep(page.letterAt(place), page.letterAt(place + 1) - '0');
                }
            }
            makeAll();
            readings++;
        }

        private void addStep(int sign, int digit) {
            if (steps < MOST_STEPS) {
                signs[steps] = sign;
                digits[steps] = digit;
                steps++;
            }
        }

        private void makeAll() {
            for (int size = 0; size < SIZES; size++) {
                int grown = size;
                for (int step = 0; step < steps && step < MOST_STEPS; step++) {
                    grown = Math.min(SIZES - 1, stepped(signs[step], digits[step], grown));
                }
                made[size] = grown;
            }
        }

        private static int stepped(int sign, int digit, int size) {
            switch (sign) {
                case 'h': return size + size / 2;
                case 'd': return 2 * size;
                case '+': return size + digit;
                case '-': return Math.max(0, size - digit);
                default: return digit > 0 ? size / digit : size;
            }
        }

        int steps() {
            return steps;
        }

        int readings() {
            return readings;
        }

        int makes(int size) {
            return size >= 0 && size < SIZES ? made[size] : NONE;
        }

        int toldBy(int kind, int size) {
            switch (kind) {
                case MODEST: return size;
                case DOCTOR: return size / 2;
                case BRAGGART: return makes(makes(size));
                default: return makes(size);
            }
        }
    }

    /** THE WEEK. */
    private static final class Week {
        private static final int MOST_TELLINGS = 16;
        private static final int LETTERS_EACH = 3;

        private final int[] tellers = new int[MOST_TELLINGS];
        private final int[] told = new int[MOST_TELLINGS];
        private int tellings;
        private int readings;

        static int faultIn(Page page) {
            for (int place = 0; place < page.length(); place++) {
                // No comma stands behind the last telling.
                if (place >= LETTERS_EACH * MOST_TELLINGS - 1 || !fits(page, place)) {
                    return place;
                }
            }
            return page.length();
        }

        static boolean isWeek(Page page) {
            int length = page.length();
            return faultIn(page) == length && length % LETTERS_EACH == 2;
        }

        private static boolean fits(Page page, int place) {
            int letter = page.letterAt(place);
            switch (place % LETTERS_EACH) {
                case 0: return isPersonLetter(letter);
                case 1: return isPersonLetter(letter) && letter != page.letterAt(place - 1);
                default: return letter == ',';
            }
        }

        private static boolean isPersonLetter(int letter) {
            return isWithin(letter, '0', '7');
        }

        void read(Page page) {
            tellings = 0;
            for (int at = 0; at < page.length() && tellings < MOST_TELLINGS; at += LETTERS_EACH) {
                tellers[tellings] = page.letterAt(at) - '0';
                told[tellings] = page.letterAt(at + 1) - '0';
                tellings++;
            }
            readings++;
        }

        boolean has(int telling) {
            return telling >= 0 && telling < tellings;
        }

        int tellings() {
            return tellings;
        }

        int readings() {
            return readings;
        }

        int who(int telling) {
            return has(telling) ? tellers[telling] : NONE;
        }

        int whom(int telling) {
            return has(telling) ? told[telling] : NONE;
        }
    }

    /** PEOPLE, whom they know, and what was seen by whom: all that an image keeps. */
    private static final class Folk {
        private final int[] kinds = new int[MOST_PEOPLE];
        private final int[] known = new int[MOST_PEOPLE];
        private final int[] witnesses = new int[TALES];
        private final int[] seenSizes = new int[TALES];
        private int people;

        Folk() {
            Arrays.fill(witnesses, NONE);
        }

        void takeAll(Folk other) {
            System.arraycopy(other.kinds, 0, kinds, 0, MOST_PEOPLE);
            System.arraycopy(other.known, 0, known, 0, MOST_PEOPLE);
            System.arraycopy(other.witnesses, 0, witnesses, 0, TALES);
            System.arraycopy(other.seenSizes, 0, seenSizes, 0, TALES);
            people = other.people;
        }

        int people() {
            return people;
        }

        boolean has(int person) {
            return person >= 0 && person < people;
        }

        boolean hasBoth(int a, int b) {
            return has(a) && has(b) && a != b;
        }

        boolean hasRoom() {
            return people < MOST_PEOPLE;
        }

        int add(int kind) {
            if (!hasRoom()) {
                return NONE;
            }
            kinds[people] = kind;
            people++;
            return people - 1;
        }

        int kindOf(int person) {
            return has(person) ? kinds[person] : NONE;
        }

        /** All whom somebody knows, as bits. */
        int knownBy(int person) {
            return has(person) ? known[person] : 0;
        }

        boolean isKnown(int a, int b) {
            return hasBoth(a, b) && ((known[a] >> b) & 1) == 1;
        }

        void setKnown(int a, int b, boolean is) {
            if (hasBoth(a, b)) {
                known[a] = is ? known[a] | (1 << b) : known[a] & ~(1 << b);
            }
        }

        int witnessOf(int tale) {
            return isTale(tale) ? witnesses[tale] : NONE;
        }

        int seenSizeOf(int tale) {
            return isTale(tale) ? seenSizes[tale] : NONE;
        }

        /** Its witness so far is answered. */
        int setSeen(int tale, int person, int size) {
            int before = witnessOf(tale);
            if (isTale(tale)) {
                witnesses[tale] = person;
                seenSizes[tale] = size;
            }
            return before;
        }

        int talesSeen() {
            int seen = 0;
            for (int tale = 0; tale < TALES; tale++) {
                seen += witnesses[tale] != NONE ? 1 : 0;
            }
            return seen;
        }
    }

    /** Who has one tale how big, and from whom. */
    private static final class Rumour {
        private final int[] sizes = new int[MOST_PEOPLE];
        private final int[] sources = new int[MOST_PEOPLE];

        void begin(int witness, int size) {
            Arrays.fill(sizes, NONE);
            Arrays.fill(sources, NONE);
            if (isPlace(witness)) {
                sizes[witness] = size;
            }
        }

        /** NONE is less than each size: who does not have it takes it, too. */
        void take(int person, int size, int source) {
            if (isPlace(person) && size > sizes[person]) {
                sizes[person] = size;
                sources[person] = source;
            }
        }

        private static boolean isPlace(int person) {
            return person >= 0 && person < MOST_PEOPLE;
        }

        int sizeAt(int person) {
            return isPlace(person) ? sizes[person] : NONE;
        }

        int fromAt(int person) {
            return isPlace(person) ? sources[person] : NONE;
        }

        int howManyHaveIt() {
            int having = 0;
            for (int size : sizes) {
                having += size != NONE ? 1 : 0;
            }
            return having;
        }

        int biggest() {
            int biggest = NONE;
            for (int size : sizes) {
                biggest = Math.max(biggest, size);
            }
            return biggest;
        }
    }

    /**
     * The greatest number of first sizes by which each would have a tale alike. The answers come by
     * first sizes that grow, and never shrink themselves: what is alike comes one behind the other.
     */
    private static final class Alike {
        private final int[] last = new int[MOST_PEOPLE];
        private final int[] run = new int[MOST_PEOPLE];
        private final int[] most = new int[MOST_PEOPLE];

        void clear() {
            Arrays.fill(last, NONE);
            Arrays.fill(run, 0);
            Arrays.fill(most, 0);
        }

        void add(int person, int size) {
            if (person >= 0 && person < MOST_PEOPLE) {
                run[person] = size == last[person] ? run[person] + 1 : 1;
                last[person] = size;
                most[person] = Math.max(most[person], run[person]);
            }
        }

        int mostOf(int person) {
            return person >= 0 && person < MOST_PEOPLE ? most[person] : 0;
        }
    }

    /** The search for chains: by breadth, over who has been told last how big. */
    private static final class Chains {
        private static final int STATES = MOST_PEOPLE * SIZES;
        private static final int MOST_TELLINGS = 20;

        private final long[] met = new long[STATES / 64];
        // Each entry: to whom it was told first, times STATES, and the state.
        private final int[] line = new int[STATES];
        private int inLine;
        private int fewest;
        private int toFirst;
        private int done;

        static int stateOf(int person, int size) {
            return person * SIZES + size;
        }

        int done() {
            return done;
        }

        int fewest() {
            return fewest;
        }

        int toFirst() {
            return toFirst;
        }

        void search(Folk folk, Law law, int start, int goal) {
            done++;
            fewest = start == goal ? 0 : NONE;
            toFirst = NONE;
            inLine = 0;
            Arrays.fill(met, 0);
            join(0, start);
            int next = 0;
            for (int tellings = 1; tellings <= MOST_TELLINGS && fewest == NONE; tellings++) {
                int end = inLine;
                for (; next < end && fewest == NONE; next++) {
                    tellOnFrom(folk, law, next, tellings, goal);
                }
            }
        }

        /**
         * Who is told first stands in the line in growing order at each number of tellings, so who
         * comes to a state earliest has the least of them.
         */
        private void tellOnFrom(Folk folk, Law law, int place, int tellings, int goal) {
            if (place < 0 || place >= STATES) {
                return;
            }
            int person = line[place] % STATES / SIZES;
            int told = law.toldBy(folk.kindOf(person), line[place] % SIZES);
            int known = folk.knownBy(person);
            for (int whom = 0; whom < folk.people(); whom++) {
                int state = stateOf(whom, told);
                if (((known >> whom) & 1) == 1 && !isMet(state)) {
                    int first = tellings == 1 ? whom : line[place] / STATES;
                    join(first, state);
                    if (state == goal) {
                        fewest = tellings;
                        toFirst = first;
                        return;
                    }
                }
            }
        }

        private boolean isMet(int state) {
            return state < 0 || state >= STATES || ((met[state / 64] >> (state % 64)) & 1) == 1;
        }

        private void join(int first, int state) {
            if (!isMet(state) && inLine < STATES) {
                met[state / 64] |= 1L << (state % 64);
                line[inLine] = first * STATES + state;
                inLine++;
            }
        }
    }

    /** Chances, counted in ways of 10 for each teller. */
    private static final class Odds {
        // By how many of them are TELLERS: in how many ways.
        private final long[] ways = new long[MOST_TELLERS + 1];
        private int tellers;

        void weigh(int howMany, int tenths) {
            tellers = Math.min(howMany, MOST_TELLERS);
            Arrays.fill(ways, 0);
            ways[0] = 1;
            for (int told = 1; told <= tellers; told++) {
                for (int growing = told; growing > 0; growing--) {
                    ways[growing] = ways[growing] * tenths + ways[growing - 1] * (10 - tenths);
                }
                ways[0] *= tenths;
            }
        }

        long allWays() {
            long all = 1;
            for (int told = 0; told < tellers; told++) {
                all *= 10;
            }
            return all;
        }

        long waysFrom(Law law, int first, int size) {
            long sum = 0;
            int grown = first;
            for (int growing = 0; growing <= tellers && growing <= MOST_TELLERS; growing++) {
                sum += grown == size ? ways[growing] : 0;
                grown = law.makes(grown);
            }
            return sum;
        }
    }

    /** The seed and its draws. */
    private static final class Draws {
        private long seed;

        void sow(int first) {
            seed = first;
        }

        int draw(int bound) {
            seed = (1103515245L * seed + 12345L) % (1L << 31);
            return bound > 0 ? (int) (seed / 65536 % bound) : 0;
        }

        int seed() {
            return (int) seed;
        }
    }
}
