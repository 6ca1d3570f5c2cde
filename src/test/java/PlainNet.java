import java.util.ArrayList;
import java.util.Arrays;
import java.util.HashMap;
import java.util.List;
import java.util.Map;

/** What the document says, in its plainest form: slow, with lists of whole markings and a recursive tree. */
final class PlainNet {
    static final int OMEGA = Integer.MAX_VALUE;

    final List<Integer> first = new ArrayList<>();
    final List<Integer> target = new ArrayList<>();
    final int[][] takes = new int[6][5];
    final int[][] gives = new int[6][5];
    int transitions = 0;

    int ending;
    final List<List<int[]>> rounds = new ArrayList<>();
    final List<int[]> tree = new ArrayList<>();
    final List<int[]> limits = new ArrayList<>();
    boolean tooManyNodes;

    void tell(int[] tokens, int[] wanted) {
        for (int p = 0; p < tokens.length; p++) {
            first.add(tokens[p]);
            target.add(wanted[p]);
        }
    }

    void addTransition(int[] taken, int[] given) {
        System.arraycopy(taken, 0, takes[transitions], 0, taken.length);
        System.arraycopy(given, 0, gives[transitions], 0, given.length);
        transitions++;
    }

    int[] firstMarking() {
        return toRow(first);
    }

    int[] targetMarking() {
        return toRow(target);
    }

    private static int[] toRow(List<Integer> list) {
        return list.stream().mapToInt(Integer::intValue).toArray();
    }

    static boolean covers(int[] upper, int[] lower) {
        for (int p = 0; p < upper.length; p++) {
            if (upper[p] < lower[p]) {
                return false;
            }
        }
        return true;
    }

    boolean canFire(int t, int[] marking) {
        return covers(marking, Arrays.copyOf(takes[t], marking.length));
    }

    int[] fired(int t, int[] marking) {
        int[] next = marking.clone();
        for (int p = 0; p < next.length; p++) {
            if (next[p] != OMEGA) {
                next[p] = next[p] - takes[t][p] + gives[t][p];
            }
        }
        return next;
    }

    void goRounds() {
        rounds.clear();
        rounds.add(List.of(targetMarking()));
        for (int i = 0;; i++) {
            List<int[]> now = rounds.get(i);
            if (isIn(firstMarking(), now)) {
                ending = 1;
                return;
            }
            if (now.size() > 200) {
                ending = -1;
                return;
            }
            if (i > 0 && areSame(now, rounds.get(i - 1))) {
                ending = 0;
                return;
            }
            if (i == 60) {
                ending = -1;
                return;
            }
            rounds.add(leastOf(withBefore(now)));
        }
    }

    static boolean isIn(int[] marking, List<int[]> least) {
        return least.stream().anyMatch(one -> covers(marking, one));
    }

    private static boolean areSame(List<int[]> a, List<int[]> b) {
        return a.stream().allMatch(one -> isIn(one, b)) && b.stream().allMatch(one -> isIn(one, a));
    }

    private List<int[]> withBefore(List<int[]> least) {
        List<int[]> all = new ArrayList<>(least);
        for (int[] one : least) {
            for (int t = 0; t < transitions; t++) {
                int[] before = new int[one.length];
                for (int p = 0; p < one.length; p++) {
                    before[p] = Math.max(takes[t][p], one[p] - gives[t][p] + takes[t][p]);
                }
                all.add(before);
            }
        }
        return all;
    }

    private static List<int[]> leastOf(List<int[]> all) {
        List<int[]> least = new ArrayList<>();
        for (int[] one : all) {
            boolean coversAnother = all.stream().anyMatch(o -> covers(one, o) && !Arrays.equals(one, o));
            boolean isThere = least.stream().anyMatch(o -> Arrays.equals(one, o));
            if (!coversAnother && !isThere) {
                least.add(one);
            }
        }
        return least;
    }

    int steps() {
        return ending == 1 ? rounds.size() - 1 : -1;
    }

    /** The first row of so many firings by trying all of them in order; it knows nothing of the rounds. */
    int[] firstRow(int firings) {
        int[] row = new int[firings];
        return fillRow(row, 0, firstMarking(), new HashMap<>()) ? row : null;
    }

    private boolean fillRow(int[] row, int k, int[] marking, Map<String, Boolean> lost) {
        if (k == row.length) {
            return covers(marking, targetMarking());
        }
        String key = k + Arrays.toString(marking);
        if (lost.containsKey(key)) {
            return false;
        }
        for (int t = 0; t < transitions; t++) {
            row[k] = t;
            if (canFire(t, marking) && fillRow(row, k + 1, fired(t, marking), lost)) {
                return true;
            }
        }
        lost.put(key, true);
        return false;
    }

    void growTree() {
        tree.clear();
        limits.clear();
        tooManyNodes = false;
        growNode(firstMarking(), new ArrayList<>());
        if (!tooManyNodes) {
            gatherLimits();
        }
    }

    private void growNode(int[] marking, List<int[]> above) {
        tree.add(marking);
        tooManyNodes = tooManyNodes || tree.size() > 1000;
        if (tooManyNodes || above.stream().anyMatch(one -> Arrays.equals(one, marking))) {
            return;
        }
        List<int[]> way = new ArrayList<>(above);
        way.add(marking);
        for (int t = 0; t < transitions && !tooManyNodes; t++) {
            if (canFire(t, marking)) {
                growNode(accelerated(fired(t, marking), way), way);
            }
        }
    }

    private static int[] accelerated(int[] child, List<int[]> way) {
        int[] before = null;
        while (!Arrays.equals(before, child)) {
            before = child.clone();
            for (int[] one : way) {
                if (covers(child, one)) {
                    for (int p = 0; p < child.length; p++) {
                        child[p] = child[p] > one[p] ? OMEGA : child[p];
                    }
                }
            }
        }
        return child;
    }

    private void gatherLimits() {
        for (int[] one : tree) {
            boolean isUnder = tree.stream().anyMatch(o -> covers(o, one) && !Arrays.equals(o, one));
            boolean isThere = limits.stream().anyMatch(o -> Arrays.equals(o, one));
            if (!isUnder && !isThere) {
                limits.add(one);
            }
        }
        limits.sort(Arrays::compare);
    }
}
