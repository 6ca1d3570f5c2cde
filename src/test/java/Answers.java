import java.util.ArrayList;
import java.util.List;

/** All that can be asked of an object without changing it, with the numbers just outside, too: some 75 calls. */
final class Answers {
    /** Numbers that no place, transition, limit, round or firing has; times 5 or 10, some wrap round to small ones. */
    static final int[] NEVER = {-1, -2, -5, Integer.MIN_VALUE, Integer.MIN_VALUE + 1, Integer.MAX_VALUE, 1 << 30,
        -(1 << 30), 858993459, 858993460, 429496730, 65536, 256, 1000, 1001};

    private final List<String> told = new ArrayList<>();

    private Answers() {
    }

    static Answers of(CoverRounds x) {
        Answers all = new Answers();
        all.askNow(x);
        all.askRounds(x);
        all.askTree(x);
        return all;
    }

    static Answers ofNow(CoverRounds x) {
        Answers now = new Answers();
        now.askNow(x);
        return now;
    }

    static Answers ofRounds(CoverRounds x) {
        Answers found = new Answers();
        found.askRounds(x);
        return found;
    }

    static Answers ofTree(CoverRounds x) {
        Answers found = new Answers();
        found.askTree(x);
        return found;
    }

    private void askNow(CoverRounds x) {
        for (int p = -1; p <= 5; p++) {
            told.add("tokens(" + p + ") = " + x.tokens(p));
        }
    }

    private void askRounds(CoverRounds x) {
        told.add("steps() = " + x.steps());
        for (int k = -1; k <= 6; k++) {
            told.add("witness(" + k + ") = " + x.witness(k));
            told.add("least(" + k + ") = " + x.least(k));
        }
    }

    /** Not covers(): that asks of the target as it is now. */
    private void askTree(CoverRounds x) {
        told.add("limits() = " + x.limits());
        for (int p = -1; p <= 5; p++) {
            told.add("most(" + p + ") = " + x.most(p));
            for (int k = -1; k <= 3; k++) {
                told.add("limit(" + k + ", " + p + ") = " + x.limit(k, p));
            }
        }
        for (int t = -1; t <= 6; t++) {
            told.add("live(" + t + ") = " + x.live(t));
        }
    }

    /** How many answers are others than they were; each is told. */
    int otherThan(Answers before) {
        int others = 0;
        for (int k = 0; k < told.size(); k++) {
            if (!told.get(k).equals(before.told.get(k))) {
                System.out.println(told.get(k) + ", before it was " + before.told.get(k));
                others++;
            }
        }
        return others;
    }
}
