import java.util.ArrayList;
import java.util.Arrays;
import java.util.List;

/** The document's face over PlainNet: each finding is a copy, so that nothing that comes later can change it. */
final class PlainFace {
    private static final int NONE = -1;
    private static final int LONGEST_ROW_TRIED = 7;

    private final PlainNet net = new PlainNet();
    private int[] now = new int[0];

    private boolean hasRounds = false;
    private int ending;
    private List<Integer> leastCounts;
    private int[] row;

    private boolean hasTree = false;
    private int treePlaces;
    private List<int[]> tree;
    private List<int[]> limits;
    private boolean[] fires;

    private boolean hasPlace(int place) {
        return 0 <= place && place < net.first.size();
    }

    private boolean hasTransition(int transition) {
        return 0 <= transition && transition < net.transitions;
    }

    private boolean isInTree(int place) {
        return hasTree && 0 <= place && place < treePlaces;
    }

    int place(int tokens) {
        if (net.first.size() == 5 || tokens < 0 || tokens > 20) {
            return NONE;
        }
        net.first.add(tokens);
        net.target.add(0);
        now = net.firstMarking();
        return net.first.size() - 1;
    }

    int transition() {
        if (net.transitions == 6) {
            return NONE;
        }
        now = net.firstMarking();
        return net.transitions++;
    }

    boolean arc(int transition, int place, int takes, int gives) {
        if (!hasTransition(transition) || !hasPlace(place) || takes < 0 || takes > 5 || gives < 0 || gives > 5) {
            return false;
        }
        net.takes[transition][place] = takes;
        net.gives[transition][place] = gives;
        now = net.firstMarking();
        return true;
    }

    boolean target(int place, int tokens) {
        if (!hasPlace(place) || tokens < 0 || tokens > 20) {
            return false;
        }
        net.target.set(place, tokens);
        return true;
    }

    int rounds() {
        net.goRounds();
        hasRounds = true;
        ending = net.ending;
        leastCounts = new ArrayList<>();
        net.rounds.forEach(round -> leastCounts.add(round.size()));
        row = rowFound();
        return ending;
    }

    private int[] rowFound() {
        if (ending != 1) {
            return new int[0];
        }
        return net.steps() <= LONGEST_ROW_TRIED ? net.firstRow(net.steps()) : rowByRounds(net.steps());
    }

    /** Rows that are too long to try all: the first transition that is a firing nearer, each time. */
    private int[] rowByRounds(int steps) {
        int[] found = new int[steps];
        int[] marking = net.firstMarking();
        for (int k = 0; k < steps; k++) {
            List<int[]> nearer = net.rounds.get(steps - 1 - k);
            int t = 0;
            while (!net.canFire(t, marking) || !PlainNet.isIn(net.fired(t, marking), nearer)) {
                t++;
            }
            found[k] = t;
            marking = net.fired(t, marking);
        }
        return found;
    }

    int steps() {
        return hasRounds && ending == 1 ? leastCounts.size() - 1 : NONE;
    }

    int witness(int k) {
        return hasRounds && 0 <= k && k < row.length ? row[k] : NONE;
    }

    int least(int i) {
        return hasRounds && 0 <= i && i < leastCounts.size() ? leastCounts.get(i) : NONE;
    }

    int grow() {
        net.growTree();
        hasTree = !net.tooManyNodes;
        treePlaces = net.first.size();
        tree = new ArrayList<>(net.tree);
        limits = new ArrayList<>(net.limits);
        fires = new boolean[net.transitions];
        for (int t = 0; t < fires.length; t++) {
            int number = t;
            fires[t] = tree.stream().anyMatch(one -> net.canFire(number, one));
        }
        return hasTree ? tree.size() : NONE;
    }

    int most(int place) {
        return isInTree(place) ? told(tree.stream().mapToInt(one -> one[place]).max().orElse(0)) : NONE;
    }

    boolean live(int transition) {
        return hasTree && 0 <= transition && transition < fires.length && fires[transition];
    }

    int limits() {
        return hasTree ? limits.size() : NONE;
    }

    int limit(int k, int place) {
        return isInTree(place) && 0 <= k && k < limits.size() ? told(limits.get(k)[place]) : NONE;
    }

    boolean covers() {
        return hasTree && treePlaces == net.first.size()
                && tree.stream().anyMatch(one -> PlainNet.covers(one, net.targetMarking()));
    }

    boolean fire(int transition) {
        if (!hasTransition(transition) || !net.canFire(transition, now)) {
            return false;
        }
        now = net.fired(transition, now);
        return true;
    }

    int tokens(int place) {
        return hasPlace(place) ? now[place] : NONE;
    }

    private static int told(int tokens) {
        return tokens == PlainNet.OMEGA ? -2 : tokens;
    }

    @Override
    public String toString() {
        return "first " + net.first + " target " + net.target + " takes " + Arrays.deepToString(net.takes)
                + " gives " + Arrays.deepToString(net.gives);
    }
}
