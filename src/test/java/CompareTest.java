import java.util.Arrays;

/**
 * Made-up nets, always the same ones: what CoverRounds answers is compared with PlainNet. No object gets more than
 * 512 calls, for nothing is promised behind them.
 */
public final class CompareTest {
    private static final int NETS = 1500;
    private static final int LONGEST_ROW_TRIED = 9;
    private static final int FIRINGS = 6;
    private static final int MOST_LIMITS_ASKED = 10;
    private static final Check CHECK = new Check("CompareTest");
    private static final MadeUp MADE_UP = new MadeUp(20261115L);
    private static final int[] SEEN = new int[3];
    private static int treesSeen = 0;

    public static void main(String[] args) {
        for (int k = 0; k < NETS; k++) {
            compareOne(k);
        }
        System.out.println("endings NONE, 0, 1: " + Arrays.toString(SEEN) + ", trees that fit: " + treesSeen);
        CHECK.yes("nets of each ending", SEEN[0] > 40 && SEEN[1] > 100 && SEEN[2] > 100);
        CHECK.yes("trees that fit, and others", treesSeen > 100 && treesSeen < 2 * NETS - 100);
        CHECK.finish();
    }

    private static int next(int most) {
        return MADE_UP.next(most);
    }

    private static void compareOne(int k) {
        CoverRounds x = new CoverRounds();
        PlainNet plain = new PlainNet();
        tell(x, plain);
        for (int again = 0; again < 2; again++) {
            String name = "net " + k + "." + again + " ";
            plain.goRounds();
            plain.growTree();
            CHECK.due(name + "rounds()", x.rounds(), plain.ending);
            CHECK.due(name + "grow()", x.grow(), plain.tooManyNodes ? -1 : plain.tree.size());
            SEEN[plain.ending + 1]++;
            treesSeen += plain.tooManyNodes ? 0 : 1;
            compareCovers(name, x, plain);
            int[] firstRow = firstRowOf(plain);
            change(x, plain);
            compareRounds(name, x, plain, firstRow);
            compareTree(name, x, plain);
            compareFiring(name, x, plain);
        }
    }

    private static void tell(CoverRounds x, PlainNet plain) {
        // much is wanted everywhere and little is moved: such rounds get many least ones, or go for long
        boolean isWide = next(3) == 0;
        int most = next(2) == 0 ? 20 : 4;
        int places = 1 + Math.max(next(4), next(4));
        for (int p = 0; p < places; p++) {
            int tokens = next(1) * next(most);
            int wanted = isWide ? next(20) : next(1) * next(most);
            x.place(tokens);
            x.target(p, wanted);
            plain.first.add(tokens);
            plain.target.add(wanted);
        }
        int transitions = Math.max(next(6), next(6));
        int sparse = 1 + next(3);
        int moved = isWide ? 1 : 1 + next(4);
        for (int t = 0; t < transitions; t++) {
            x.transition();
            plain.transitions++;
            for (int p = 0; p < places; p++) {
                tellArc(x, plain, t, p, sparseNext(sparse, moved), sparseNext(sparse, moved));
            }
        }
    }

    /** Few arcs make nets with much to fire at once, many arcs make nets with little. */
    private static int sparseNext(int sparse, int most) {
        return next(sparse) == 0 ? next(most) : 0;
    }

    private static void tellArc(CoverRounds x, PlainNet plain, int t, int p, int takes, int gives) {
        x.arc(t, p, takes, gives);
        plain.takes[t][p] = takes;
        plain.gives[t][p] = gives;
    }

    /** The findings are looked at behind a change, for they are to stay as they were. */
    private static void change(CoverRounds x, PlainNet plain) {
        int p = next(plain.first.size() - 1);
        int tokens = next(20);
        x.target(p, tokens);
        plain.target.set(p, tokens);
        if (plain.transitions > 0) {
            tellArc(x, plain, next(plain.transitions - 1), p, next(5), next(5));
        }
    }

    private static int[] firstRowOf(PlainNet plain) {
        return plain.steps() <= LONGEST_ROW_TRIED ? plain.firstRow(Math.max(plain.steps(), 0)) : null;
    }

    private static void compareRounds(String name, CoverRounds x, PlainNet plain, int[] firstRow) {
        CHECK.due(name + "steps()", x.steps(), plain.steps());
        for (int i = 0; i <= plain.rounds.size(); i++) {
            int want = i < plain.rounds.size() ? plain.rounds.get(i).size() : -1;
            CHECK.due(name + "least(" + i + ")", x.least(i), want);
            if (i >= plain.steps()) {
                CHECK.due(name + "witness(" + i + ")", x.witness(i), -1);
            } else if (firstRow != null) {
                CHECK.due(name + "witness(" + i + ")", x.witness(i), firstRow[i]);
            }
        }
    }

    private static void compareTree(String name, CoverRounds x, PlainNet plain) {
        int count = plain.tooManyNodes ? -1 : plain.limits.size();
        CHECK.due(name + "limits()", x.limits(), count);
        int apart = 1 + count / MOST_LIMITS_ASKED;
        for (int p = 0; p < plain.first.size(); p++) {
            for (int k = next(apart - 1); k < count; k += apart) {
                CHECK.due(name + "limit(" + k + ", " + p + ")", x.limit(k, p), told(plain.limits.get(k)[p]));
            }
            int place = p;
            int most = plain.tree.stream().mapToInt(one -> one[place]).max().orElse(-1);
            CHECK.due(name + "most(" + p + ")", x.most(p), plain.tooManyNodes ? -1 : told(most));
        }
    }

    private static int told(int tokens) {
        return tokens == PlainNet.OMEGA ? CoverRounds.OMEGA : tokens;
    }

    private static void compareCovers(String name, CoverRounds x, PlainNet plain) {
        boolean covers = plain.tree.stream().anyMatch(one -> PlainNet.covers(one, plain.targetMarking()));
        CHECK.due(name + "covers()", x.covers() ? 1 : 0, covers && !plain.tooManyNodes ? 1 : 0);
        if (!plain.tooManyNodes && plain.ending >= 0) {
            CHECK.due(name + "covers() as rounds()", x.covers() ? 1 : 0, plain.ending);
        }
        for (int t = 0; t < 6; t++) {
            int number = t;
            boolean live = t < plain.transitions && !plain.tooManyNodes
                    && plain.tree.stream().anyMatch(one -> plain.canFire(number, one));
            CHECK.due(name + "live(" + t + ")", x.live(t) ? 1 : 0, live ? 1 : 0);
        }
    }

    private static void compareFiring(String name, CoverRounds x, PlainNet plain) {
        if (plain.transitions == 0) {
            return;
        }
        int[] now = plain.firstMarking();
        for (int k = 0; k < FIRINGS; k++) {
            int t = next(plain.transitions - 1);
            boolean can = plain.canFire(t, now);
            now = can ? plain.fired(t, now) : now;
            CHECK.due(name + "fire(" + t + ")", x.fire(t) ? 1 : 0, can ? 1 : 0);
            for (int p = 0; p < now.length; p++) {
                CHECK.due(name + "tokens(" + p + ") of " + Arrays.toString(now), x.tokens(p), now[p]);
            }
        }
        x.arc(0, 0, plain.takes[0][0], plain.gives[0][0]);
    }
}
