import java.util.Arrays;

/**
 * Promises 6 to 9 on small nets, by the words of 'Terms' alone: each marking of a box is asked whether it is in
 * U(i), by firing each transition at it. Neither the class nor PlainNet goes that way: both step back from the target.
 */
public final class DefinitionTest {
    private static final int NETS = 1000;
    private static final int ROUNDS = 6;
    private static final int MOST_WANTED = 7;
    private static final int MOST_MOVED = 2;

    /** No least one of these rounds has more at a place, so what has more is in U(i) when this many are. */
    private static final int MOST_IN_BOX = MOST_WANTED + ROUNDS * MOST_MOVED;
    private static final int SIDE = MOST_IN_BOX + 1;

    private static final Check CHECK = new Check("DefinitionTest");
    private static final MadeUp MADE_UP = new MadeUp(20261116L);

    /** How many nets ended as coverable in each of these rounds. */
    private static final int[] SEEN_COVERABLE = new int[ROUNDS + 1];
    private static int seenNotCoverable = 0;
    private static int seenNoEnd = 0;

    public static void main(String[] args) {
        for (int k = 0; k < NETS; k++) {
            compareOne("net " + k + " ");
        }
        System.out.println("coverable by steps: " + Arrays.toString(SEEN_COVERABLE)
                + ", not coverable: " + seenNotCoverable + ", no end yet: " + seenNoEnd);
        CHECK.yes("nets of each ending", seenNotCoverable > 100 && seenNoEnd > 20);
        CHECK.yes("nets of each number of steps", Arrays.stream(SEEN_COVERABLE).allMatch(seen -> seen > 10));
        CHECK.finish();
    }

    private static void compareOne(String name) {
        CoverRounds x = new CoverRounds();
        PlainNet net = new PlainNet();
        tell(x, net);
        int ending = x.rounds();
        boolean[] round = firstRound(net);
        for (int i = 0; i <= ROUNDS; i++) {
            boolean[] before = round;
            round = i == 0 ? before : nextRound(net, before);
            CHECK.due(name + "least(" + i + ")", x.least(i), countLeast(round, net.first.size()));
            if (round[cellOf(net.firstMarking())]) {
                SEEN_COVERABLE[i]++;
                compareCoverable(name, x, net, ending, i);
                return;
            }
            if (i > 0 && Arrays.equals(round, before)) {
                seenNotCoverable++;
                compareNotCoverable(name, x, ending, i);
                return;
            }
        }
        seenNoEnd++;
        CHECK.yes(name + "steps() are more, or none", x.steps() > ROUNDS || x.steps() == CoverRounds.NONE);
    }

    private static void compareCoverable(String name, CoverRounds x, PlainNet net, int ending, int steps) {
        CHECK.due(name + "rounds()", ending, 1);
        CHECK.due(name + "steps()", x.steps(), steps);
        CHECK.due(name + "least(" + (steps + 1) + ")", x.least(steps + 1), CoverRounds.NONE);
        int[] row = firstRow(net, steps);
        for (int k = 0; k < steps; k++) {
            CHECK.due(name + "witness(" + k + ") of " + Arrays.toString(row), x.witness(k), row[k]);
        }
        CHECK.due(name + "witness(" + steps + ")", x.witness(steps), CoverRounds.NONE);
    }

    private static void compareNotCoverable(String name, CoverRounds x, int ending, int last) {
        CHECK.due(name + "rounds()", ending, 0);
        CHECK.due(name + "steps()", x.steps(), CoverRounds.NONE);
        CHECK.due(name + "witness(0)", x.witness(0), CoverRounds.NONE);
        CHECK.due(name + "least(" + (last + 1) + ")", x.least(last + 1), CoverRounds.NONE);
    }

    private static void tell(CoverRounds x, PlainNet net) {
        int places = 1 + MADE_UP.next(2);
        int[] tokens = madeUpRow(places, 3);
        int[] wanted = madeUpRow(places, MOST_WANTED);
        net.tell(tokens, wanted);
        Nets.placesOn(x, tokens);
        Nets.target(x, wanted);
        int transitions = 1 + MADE_UP.next(4);
        for (int t = 0; t < transitions; t++) {
            int[] takes = madeUpRow(places, MOST_MOVED);
            int[] gives = madeUpRow(places, MOST_MOVED);
            net.addTransition(takes, gives);
            x.transition();
            for (int p = 0; p < places; p++) {
                x.arc(t, p, takes[p], gives[p]);
            }
        }
    }

    private static int[] madeUpRow(int length, int most) {
        int[] row = new int[length];
        for (int p = 0; p < length; p++) {
            row[p] = MADE_UP.next(1) * MADE_UP.next(most);
        }
        return row;
    }

    private static int cells(int places) {
        int cells = 1;
        for (int p = 0; p < places; p++) {
            cells *= SIDE;
        }
        return cells;
    }

    private static int cellOf(int[] marking) {
        int cell = 0;
        for (int tokens : marking) {
            cell = cell * SIDE + Math.min(tokens, MOST_IN_BOX);
        }
        return cell;
    }

    private static int[] markingOf(int cell, int places) {
        int[] marking = new int[places];
        int rest = cell;
        for (int p = places - 1; p >= 0; p--) {
            marking[p] = rest % SIDE;
            rest /= SIDE;
        }
        return marking;
    }

    private static boolean[] firstRound(PlainNet net) {
        int places = net.first.size();
        boolean[] round = new boolean[cells(places)];
        for (int cell = 0; cell < round.length; cell++) {
            round[cell] = PlainNet.covers(markingOf(cell, places), net.targetMarking());
        }
        return round;
    }

    private static boolean[] nextRound(PlainNet net, boolean[] round) {
        boolean[] next = round.clone();
        for (int cell = 0; cell < next.length; cell++) {
            int[] marking = markingOf(cell, net.first.size());
            for (int t = 0; t < net.transitions && !next[cell]; t++) {
                next[cell] = net.canFire(t, marking) && round[cellOf(net.fired(t, marking))];
            }
        }
        return next;
    }

    /** A marking covers no other one of its round when taking one token anywhere leads out of the round. */
    private static int countLeast(boolean[] round, int places) {
        int count = 0;
        for (int cell = 0; cell < round.length; cell++) {
            count += round[cell] && !hasOneRightBelow(round, markingOf(cell, places)) ? 1 : 0;
        }
        return count;
    }

    private static boolean hasOneRightBelow(boolean[] round, int[] marking) {
        for (int p = 0; p < marking.length; p++) {
            int[] below = marking.clone();
            below[p]--;
            if (below[p] >= 0 && round[cellOf(below)]) {
                return true;
            }
        }
        return false;
    }

    /** All rows of so many firings, in their order, until one leads to a marking that covers the target. */
    private static int[] firstRow(PlainNet net, int firings) {
        int[] row = new int[firings];
        while (!leadsThere(net, row)) {
            int k = firings - 1;
            while (row[k] == net.transitions - 1) {
                row[k] = 0;
                k--;
            }
            row[k]++;
        }
        return row;
    }

    private static boolean leadsThere(PlainNet net, int[] row) {
        int[] marking = net.firstMarking();
        for (int t : row) {
            if (!net.canFire(t, marking)) {
                return false;
            }
            marking = net.fired(t, marking);
        }
        return PlainNet.covers(marking, net.targetMarking());
    }
}
