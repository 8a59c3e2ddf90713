import java.util.Random;

/** Chains of up to twenty tellings, along walks by fixed seeds, on the class and on PlainValley. */
final class DeepChainTest {
    private static final int VALLEYS = 150;
    private static final String[] LAWS = {
        "h", "h+1", "+1", "+7", "d-1", "-1", "h-3+1", "d", "/2+9", "d/3+5", "h+9-2", "+9+9", "dd/3", "+3/2d"};

    private final Random random;
    private final GrowsByHalf valley = new GrowsByHalf();
    private final PlainValley plain = new PlainValley();
    private final boolean[][] known = new boolean[8][8];
    private final int people;

    private DeepChainTest(int seed) {
        random = new Random(seed);
        people = 2 + random.nextInt(7);
        long law = Texts.packed(LAWS[seed % LAWS.length], 0);
        valley.letters(law);
        plain.letters(law);
        valley.law();
        plain.law();
        for (int person = 0; person < people; person++) {
            int kind = random.nextInt(3) == 0 ? 0 : random.nextInt(4);
            valley.person(kind);
            plain.person(kind);
        }
        int oneIn = 1 + random.nextInt(4);
        for (int pair = 0; pair < 64; pair++) {
            int a = pair / 8;
            int b = pair % 8;
            if (a != b && a < people && b < people && (b == (a + 1) % people || random.nextInt(oneIn) == 0)) {
                known[a][b] = true;
                valley.knows(a, b, true);
                plain.knows(a, b, true);
            }
        }
    }

    static void run() {
        int[] lengths = new int[21];
        for (int seed = 1; seed <= VALLEYS; seed++) {
            DeepChainTest test = new DeepChainTest(seed);
            for (int chain = 0; chain < 15; chain++) {
                test.chainAlike(seed, lengths);
            }
        }
        for (int tellings = 1; tellings <= 20; tellings++) {
            Check.isTrue("chains of " + tellings + " were among them", lengths[tellings] > 0);
        }
    }

    private void chainAlike(int seed, int[] lengths) {
        int from = random.nextInt(people);
        int size = random.nextInt(random.nextInt(3) == 0 ? 10000 : 200);
        int to = from;
        int wanted = size;
        int walked = 1 + random.nextInt(22);
        for (int telling = 0; telling < walked; telling++) {
            wanted = plain.tells(to, wanted);
            int next = random.nextInt(people);
            while (!known[to][next]) {
                next = (next + 1) % people;
            }
            to = next;
        }
        String call = "seed " + seed + ": chain(" + from + ", " + size + ", " + to + ", " + wanted;
        int fewest = plain.chain(from, size, to, wanted, 0);
        Check.same(call + ", 0)", valley.chain(from, size, to, wanted, 0), fewest);
        Check.same(call + ", 1)", valley.chain(from, size, to, wanted, 1), plain.chain(from, size, to, wanted, 1));
        if (fewest > 0) {
            lengths[fewest]++;
        }
    }
}
