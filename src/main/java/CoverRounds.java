import java.util.Arrays;

/** Nets of places: coverable markings with their shortest rows of firings, and the tree with omegas. */
public final class CoverRounds {
    public static final int NONE = -1;
    public static final int OMEGA = -2;

    private static final int MOST_PLACES = 5;
    private static final int MOST_TRANSITIONS = 6;
    private static final int MOST_TOKENS = 20;
    private static final int MOST_MOVED = 5;
    private static final int MOST_LEAST = 200;
    private static final int LAST_ROUND = 60;
    private static final int MOST_NODES = 1000;

    private static final int COVERABLE = 1;
    private static final int NOT_COVERABLE = 0;
    private static final int TOO_LARGE = NONE;
    private static final int GOES_ON = 2;

    /** Omega inside the tree: far above every number of tokens there, so it compares rightly with them. */
    private static final int BOUNDLESS = 1_000_000_000;

    private final Net net;
    private final int[] now;
    private final Search search;
    private final Tree tree;

    public CoverRounds() {
        net = new Net();
        now = new int[MOST_PLACES];
        search = new Search();
        tree = new Tree();
    }

    public int place(int tokens) {
        if (net.places >= MOST_PLACES || !isWithin(tokens, MOST_TOKENS)) {
            return NONE;
        }
        int added = net.places;
        net.places = added + 1;
        net.first[added] = tokens;
        goBackToFirst();
        return added;
    }

    public int transition() {
        if (net.transitions >= MOST_TRANSITIONS) {
            return NONE;
        }
        int added = net.transitions;
        net.transitions = added + 1;
        goBackToFirst();
        return added;
    }

    public boolean arc(int transition, int place, int takes, int gives) {
        if (!net.hasTransition(transition) || !net.hasPlace(place)) {
            return false;
        }
        if (!isWithin(takes, MOST_MOVED) || !isWithin(gives, MOST_MOVED)) {
            return false;
        }
        net.takes[transition][place] = takes;
        net.gives[transition][place] = gives;
        goBackToFirst();
        return true;
    }

    public boolean target(int place, int tokens) {
        if (!net.hasPlace(place) || !isWithin(tokens, MOST_TOKENS)) {
            return false;
        }
        net.wanted[place] = tokens;
        return true;
    }

    public int rounds() {
        search.goRounds(net);
        return search.ending;
    }

    public int steps() {
        return search.ending == COVERABLE ? search.last : NONE;
    }

    public int witness(int k) {
        return k >= 0 && k < steps() ? search.row[k] : NONE;
    }

    public int least(int i) {
        return i >= 0 && i <= search.last ? search.leastCounts[i] : NONE;
    }

    public int grow() {
        tree.growFrom(net);
        return tree.isGrown ? tree.nodes : NONE;
    }

    public int most(int place) {
        return tree.isGrown && tree.hasPlace(place) ? told(tree.mostAt(place)) : NONE;
    }

    public boolean live(int transition) {
        return tree.isGrown && isWithin(transition, MOST_TRANSITIONS - 1) && tree.fires[transition];
    }

    public int limits() {
        return tree.isGrown ? tree.limitCount : NONE;
    }

    public int limit(int k, int place) {
        if (!tree.isGrown || !tree.hasPlace(place) || k < 0 || k >= tree.limitCount) {
            return NONE;
        }
        return told(tree.limitAt(k, place));
    }

    public boolean covers() {
        return tree.isGrown && tree.places == net.places && tree.reaches(net.wanted);
    }

    public boolean fire(int transition) {
        if (!net.hasTransition(transition) || !net.canFire(transition, now, 0)) {
            return false;
        }
        net.move(transition, now, 0);
        return true;
    }

    public int tokens(int place) {
        return net.hasPlace(place) ? now[place] : NONE;
    }

    private void goBackToFirst() {
        System.arraycopy(net.first, 0, now, 0, MOST_PLACES);
    }

    private static boolean isWithin(int value, int most) {
        return value >= 0 && value <= most;
    }

    private static int told(int count) {
        return count == BOUNDLESS ? OMEGA : count;
    }

    /** The net as it was told: its rows keep 0 for what is not there yet. */
    private static final class Net {
        int places = 0;
        int transitions = 0;
        final int[] first = new int[MOST_PLACES];
        final int[] wanted = new int[MOST_PLACES];
        final int[][] takes = new int[MOST_TRANSITIONS][MOST_PLACES];
        final int[][] gives = new int[MOST_TRANSITIONS][MOST_PLACES];

        boolean hasPlace(int place) {
            return place >= 0 && place < places;
        }

        boolean hasTransition(int transition) {
            return transition >= 0 && transition < transitions;
        }

        boolean canFire(int transition, int[] counts, int from) {
            int[] needed = takes[transition];
            for (int p = 0; p < places; p++) {
                if (counts[from + p] < needed[p]) {
                    return false;
                }
            }
            return true;
        }

        void move(int transition, int[] counts, int from) {
            for (int p = 0; p < places; p++) {
                if (counts[from + p] != BOUNDLESS) {
                    counts[from + p] += gives[transition][p] - takes[transition][p];
                }
            }
        }
    }

    /**
     * A marking of the rounds in one long, so that two are compared at once. A place has ten bits: nine for
     * its tokens, since 60 rounds add at most 5 each to 20, and one that is free to catch a borrow.
     */
    private static final class Packed {
        private static final int TOKEN_BITS = 9;
        private static final int PLACE_BITS = 10;
        private static final long BORROWS = 1L << 9 | 1L << 19 | 1L << 29 | 1L << 39 | 1L << 49;

        static long of(int[] counts) {
            long packed = 0L;
            for (int p = MOST_PLACES - 1; p >= 0; p--) {
                packed = packed << PLACE_BITS | counts[p];
            }
            return packed;
        }

        static boolean isAtLeast(long upper, long lower) {
            return ((upper | BORROWS) - lower & BORROWS) == BORROWS;
        }

        /** At each place upper less lower, or 0 where that would be below 0. */
        static long lessened(long upper, long lower) {
            long difference = (upper | BORROWS) - lower;
            long enough = difference & BORROWS;
            long kept = enough - (enough >>> TOKEN_BITS);
            return difference & kept;
        }
    }

    /** A row of packed markings that is used again; it is made longer only by need, to spare room. */
    private static final class Pile {
        private static final int LENGTH_AT_FIRST = 64;

        long[] rows = new long[LENGTH_AT_FIRST];
        int size = 0;

        void add(long marking) {
            if (size >= rows.length) {
                rows = Arrays.copyOf(rows, 2 * rows.length);
            }
            rows[size] = marking;
            size++;
        }

        boolean hasOneBelow(long marking, int end) {
            for (int k = 0; k < end && k < size; k++) {
                if (Packed.isAtLeast(marking, rows[k])) {
                    return true;
                }
            }
            return false;
        }
    }

    /** Goes the rounds, from the target back, and keeps what they found. */
    private static final class Search {
        int ending = GOES_ON;
        int last = NONE;
        final int[] leastCounts = new int[LAST_ROUND + 1];
        final int[] row = new int[LAST_ROUND];

        private long first = 0L;
        private int transitions = 0;
        private final long[] takes = new long[MOST_TRANSITIONS];
        private final long[] gives = new long[MOST_TRANSITIONS];

        /** The least ones of the round of now: those that the round before had, too, stand in front. */
        private final Pile least = new Pile();
        private int oldCount = 0;

        /**
         * All that were least ones when their round ended, by the round they came in: the first bornUpTo[i]
         * of them tell U(i). Only those of the last round, from bornFrom on, can lead to new ones.
         */
        private final Pile born = new Pile();
        private final int[] bornUpTo = new int[LAST_ROUND + 1];
        private int bornFrom = 0;

        void goRounds(Net net) {
            begin(net);
            for (int i = 0; i <= LAST_ROUND && ending == GOES_ON; i++) {
                if (i > 0) {
                    stepBack();
                }
                last = i;
                leastCounts[i] = least.size;
                ending = endingOf(i);
                if (ending == GOES_ON) {
                    keepBorn(i);
                }
            }
            if (ending == COVERABLE) {
                findRow();
            }
        }

        private void begin(Net net) {
            first = Packed.of(net.first);
            transitions = net.transitions;
            for (int t = 0; t < transitions; t++) {
                takes[t] = Packed.of(net.takes[t]);
                gives[t] = Packed.of(net.gives[t]);
            }
            born.size = 0;
            least.size = 0;
            least.add(Packed.of(net.wanted));
            oldCount = 0;
            ending = GOES_ON;
        }

        private int endingOf(int i) {
            if (least.hasOneBelow(first, least.size)) {
                return COVERABLE;
            }
            if (least.size > MOST_LEAST) {
                return TOO_LARGE;
            }
            if (oldCount == least.size) {
                return NOT_COVERABLE;
            }
            return i == LAST_ROUND ? TOO_LARGE : GOES_ON;
        }

        private void keepBorn(int i) {
            bornFrom = born.size;
            for (int k = oldCount; k < least.size; k++) {
                born.add(least.rows[k]);
            }
            bornUpTo[i] = born.size;
        }

        private void stepBack() {
            oldCount = least.size;
            for (int k = bornFrom; k < born.size; k++) {
                for (int t = 0; t < transitions; t++) {
                    addToLeast(Packed.lessened(born.rows[k], gives[t]) + takes[t]);
                }
            }
        }

        private void addToLeast(long marking) {
            if (least.hasOneBelow(marking, least.size)) {
                return;
            }
            int kept = 0;
            int oldKept = 0;
            for (int k = 0; k < least.size; k++) {
                if (!Packed.isAtLeast(least.rows[k], marking)) {
                    least.rows[kept] = least.rows[k];
                    kept++;
                    oldKept += k < oldCount ? 1 : 0;
                }
            }
            least.size = kept;
            oldCount = oldKept;
            least.add(marking);
        }

        /** No firing can save more than one round, so the first transition that stays in the rounds is right. */
        private void findRow() {
            long at = first;
            for (int k = 0; k < last; k++) {
                int end = bornUpTo[last - 1 - k];
                for (int t = 0; t < transitions; t++) {
                    long next = at - takes[t] + gives[t];
                    if (Packed.isAtLeast(at, takes[t]) && born.hasOneBelow(next, end)) {
                        row[k] = t;
                        at = next;
                        break;
                    }
                }
            }
        }
    }

    /** The tree with omegas: node n has its tokens from n * MOST_PLACES on, and stands behind the one above it. */
    private static final class Tree {
        boolean isGrown = false;
        int places = 0;
        int nodes = 0;
        int limitCount = 0;
        final boolean[] fires = new boolean[MOST_TRANSITIONS];

        private final int[] counts = new int[MOST_NODES * MOST_PLACES];
        private final int[] above = new int[MOST_NODES];
        private final int[] depth = new int[MOST_NODES];
        private final int[] limitNodes = new int[MOST_NODES];

        void growFrom(Net net) {
            begin(net);
            boolean fits = true;
            for (int node = 0; fits && node < nodes && node < MOST_NODES; node++) {
                fits = hasTwinAbove(node) || addChildren(net, node);
            }
            if (fits) {
                gatherLimits();
            }
            isGrown = fits;
        }

        private void begin(Net net) {
            places = net.places;
            for (int t = 0; t < MOST_TRANSITIONS; t++) {
                fires[t] = false;
            }
            System.arraycopy(net.first, 0, counts, 0, MOST_PLACES);
            above[0] = 0;
            depth[0] = 0;
            nodes = 1;
            limitCount = 0;
        }

        private boolean hasTwinAbove(int node) {
            int up = node;
            for (int level = depth[node]; level > 0; level--) {
                up = above[up];
                if (isAtLeast(node, up) && isAtLeast(up, node)) {
                    return true;
                }
            }
            return false;
        }

        /** Answers false when the tree would get too many nodes. */
        private boolean addChildren(Net net, int node) {
            for (int t = 0; t < net.transitions; t++) {
                if (net.canFire(t, counts, node * MOST_PLACES)) {
                    if (nodes >= MOST_NODES) {
                        return false;
                    }
                    fires[t] = true;
                    addChild(net, node, t);
                }
            }
            return true;
        }

        private void addChild(Net net, int node, int transition) {
            int child = nodes;
            nodes = child + 1;
            above[child] = node;
            depth[child] = depth[node] + 1;
            System.arraycopy(counts, node * MOST_PLACES, counts, child * MOST_PLACES, MOST_PLACES);
            net.move(transition, counts, child * MOST_PLACES);
            accelerate(child);
        }

        /** A new omega can make the child cover more of the nodes above, so it goes on until there is none. */
        private void accelerate(int child) {
            boolean goesOn = true;
            for (int pass = 0; goesOn && pass <= places; pass++) {
                goesOn = false;
                int up = child;
                for (int level = depth[child]; level > 0; level--) {
                    up = above[up];
                    if (isAtLeast(child, up) && raise(child, up)) {
                        goesOn = true;
                    }
                }
            }
        }

        /** Answers whether there was a place that became omega. */
        private boolean raise(int child, int up) {
            boolean raised = false;
            for (int p = 0; p < places; p++) {
                int count = countAt(child, p);
                if (count != BOUNDLESS && count > countAt(up, p)) {
                    counts[child * MOST_PLACES + p] = BOUNDLESS;
                    raised = true;
                }
            }
            return raised;
        }

        private void gatherLimits() {
            for (int node = 0; node < nodes; node++) {
                if (!hasLimitOver(node)) {
                    dropLimitsUnder(node);
                    insertLimit(node);
                }
            }
        }

        private boolean hasLimitOver(int node) {
            for (int k = 0; k < limitCount; k++) {
                if (isAtLeast(limitNodes[k], node)) {
                    return true;
                }
            }
            return false;
        }

        private void dropLimitsUnder(int node) {
            int kept = 0;
            for (int k = 0; k < limitCount; k++) {
                if (!isAtLeast(node, limitNodes[k])) {
                    limitNodes[kept] = limitNodes[k];
                    kept++;
                }
            }
            limitCount = kept;
        }

        private void insertLimit(int node) {
            int k = limitCount;
            while (k > 0 && comesBefore(node, limitNodes[k - 1])) {
                limitNodes[k] = limitNodes[k - 1];
                k--;
            }
            limitNodes[k] = node;
            limitCount++;
        }

        private boolean comesBefore(int node, int other) {
            for (int p = 0; p < places; p++) {
                if (countAt(node, p) != countAt(other, p)) {
                    return countAt(node, p) < countAt(other, p);
                }
            }
            return false;
        }

        private boolean isAtLeast(int upper, int lower) {
            int upperFrom = upper * MOST_PLACES;
            int lowerFrom = lower * MOST_PLACES;
            for (int p = 0; p < places; p++) {
                if (counts[upperFrom + p] < counts[lowerFrom + p]) {
                    return false;
                }
            }
            return true;
        }

        private int countAt(int node, int place) {
            return counts[node * MOST_PLACES + place];
        }

        boolean hasPlace(int place) {
            return place >= 0 && place < places;
        }

        int limitAt(int k, int place) {
            return countAt(limitNodes[k], place);
        }

        /** Some limit covers each marking of the tree, so the limits are enough to look at. */
        int mostAt(int place) {
            int found = 0;
            for (int k = 0; k < limitCount; k++) {
                found = Math.max(found, limitAt(k, place));
            }
            return found;
        }

        boolean reaches(int[] wanted) {
            for (int k = 0; k < limitCount; k++) {
                if (limitReaches(k, wanted)) {
                    return true;
                }
            }
            return false;
        }

        private boolean limitReaches(int k, int[] wanted) {
            for (int p = 0; p < places; p++) {
                if (limitAt(k, p) < wanted[p]) {
                    return false;
                }
            }
            return true;
        }
    }
}
