import java.util.ArrayList;
import java.util.List;

/** All that can be seen of an object by its calls, its image too. Some 330 calls; the object is spent then. */
final class Portrait {
    private final GrowsByHalf x;
    private final List<Long> seen = new ArrayList<>();

    private Portrait(GrowsByHalf x) {
        this.x = x;
    }

    static List<Long> of(GrowsByHalf x) {
        Portrait portrait = new Portrait(x);
        portrait.texts();
        portrait.people();
        portrait.tales();
        portrait.chains();
        portrait.add(x.restore());
        portrait.add(x.count(0));
        portrait.tales();
        portrait.spendPage();
        return portrait.seen;
    }

    private void add(long answer) {
        seen.add(answer);
    }

    private void texts() {
        add(x.digest());
        add(x.fault(0));
        add(x.fault(1));
        for (int size : new int[] {0, 7, 4000, 9999}) {
            add(x.grown(size));
        }
        for (int telling = 0; telling <= 16; telling++) {
            add(x.telling(telling, 0));
            add(x.telling(telling, 1));
        }
        add(x.gossip(3, 5, 0));
        add(x.gossip(60, 5, 1));
        add(x.gossip(60, 5, 2));
    }

    private void people() {
        for (int person = 0; person <= 8; person++) {
            add(x.kind(person));
            add(x.tells(person, 11));
        }
    }

    /** Spends whom they know, and who has seen what. */
    private void tales() {
        for (int person = 0; person < 8; person++) {
            for (int tale = 0; tale < 4; tale++) {
                add(x.size(person, tale));
            }
        }
        for (int pair = 0; pair < 64; pair++) {
            if (pair / 8 != pair % 8) {
                add(x.knows(pair / 8, pair % 8, false));
            }
        }
        for (int tale = 0; tale < 4; tale++) {
            add(x.drop(tale));
        }
    }

    private void chains() {
        add(x.count(7));
        for (int left = 0; left < 31; left++) {
            add(x.chain(0, 5, 0, 5, 0));
        }
    }

    private void spendPage() {
        add(x.count(5));
        add(x.count(6));
        add(x.law());
        add(x.week());
        add(x.blank());
    }
}
