/** Promises 10 to 15 in ordinary use: the tree with omegas and what is read from it. */
public final class TreeTest {
    private static final int NONE = CoverRounds.NONE;
    private static final int OMEGA = CoverRounds.OMEGA;
    private static final Check CHECK = new Check("TreeTest");

    public static void main(String[] args) {
        pump();
        omegaStays();
        twinsOnlyAbove();
        manyLimits();
        liveOrNot();
        coversTheTargetOfNow();
        CHECK.finish();
    }

    private static void limit(CoverRounds x, int k, int... want) {
        for (int p = 0; p < want.length; p++) {
            CHECK.due("limit(" + k + ", " + p + ")", x.limit(k, p), want[p]);
        }
        CHECK.due("limit(" + k + ", behind)", x.limit(k, want.length), NONE);
    }

    /** Nodes: 1 0 0; 0 1 0; 1 0 w; 0 1 w; 1 0 w. */
    private static void pump() {
        CoverRounds x = Nets.pump();
        CHECK.due("pump grow()", x.grow(), 5);
        CHECK.due("pump most(0)", x.most(0), 1);
        CHECK.due("pump most(1)", x.most(1), 1);
        CHECK.due("pump most(2)", x.most(2), OMEGA);
        CHECK.due("pump limits()", x.limits(), 2);
        limit(x, 0, 0, 1, OMEGA);
        limit(x, 1, 1, 0, OMEGA);
        limit(x, 2, NONE, NONE, NONE);
    }

    /** Nodes: 1 0 0 0; 1 0 w 0; 1 0 w 0 and 0 1 w 0, where nothing is covered: omega less 5 alone is omega. */
    private static void omegaStays() {
        CoverRounds x = Nets.places(1, 0, 0, 0);
        Nets.transition(x, 0, 1, 1, 2, 0, 1);
        Nets.transition(x, 0, 1, 0, 1, 0, 1, 2, 5, 0);
        CHECK.due("omega grow()", x.grow(), 4);
        CHECK.due("omega limits()", x.limits(), 2);
        limit(x, 0, 0, 1, OMEGA, 0);
        limit(x, 1, 1, 0, OMEGA, 0);
        CHECK.yes("omega live(1)", x.live(1));
        CHECK.due("omega most(3)", x.most(3), 0);
    }

    /** The marking 0 0 0 comes on two ways: neither node stands above the other one, so both count and go on. */
    private static void twinsOnlyAbove() {
        CoverRounds x = Nets.places(1, 1, 0);
        Nets.transition(x, 0, 1, 0);
        Nets.transition(x, 1, 1, 0);
        CHECK.due("two ways grow()", x.grow(), 5);
        Nets.transition(x, 2, 0, 0);
        CHECK.due("two ways and twins grow()", x.grow(), 10);
    }

    /** Tokens only move, so each marking is a limit; they stand in order though the tree has them mixed. */
    private static void manyLimits() {
        CoverRounds x = Nets.places(5, 0, 0);
        Nets.transition(x, 0, 1, 0, 2, 0, 1);
        Nets.transition(x, 0, 1, 0, 1, 0, 1);
        CHECK.due("moves grow()", x.grow(), 63);
        CHECK.due("moves limits()", x.limits(), 21);
        int k = 0;
        for (int a = 0; a <= 5; a++) {
            for (int b = 0; a + b <= 5; b++) {
                limit(x, k, a, b, 5 - a - b);
                k++;
            }
        }
    }

    private static void liveOrNot() {
        CoverRounds x = Nets.places(4, 0);
        int dead = Nets.transition(x, 0, 5, 0);
        int alive = Nets.transition(x, 0, 4, 0, 1, 0, 1);
        int later = Nets.transition(x, 1, 1, 0);
        int never = Nets.transition(x, 1, 2, 0);
        CHECK.no("live(alive) without a tree", x.live(alive));
        CHECK.due("live grow()", x.grow(), 3);
        CHECK.no("live(dead)", x.live(dead));
        CHECK.yes("live(alive)", x.live(alive));
        CHECK.yes("live(later)", x.live(later));
        CHECK.no("live(never)", x.live(never));
        x.arc(later, 0, 5, 0);
        x.grow();
        CHECK.no("live(later) in the next tree", x.live(later));
    }

    private static void coversTheTargetOfNow() {
        CoverRounds x = Nets.pump();
        CHECK.no("covers() without a tree", x.covers());
        x.grow();
        CHECK.yes("covers() of 0 0 0", x.covers());
        Nets.target(x, 0, 1, 20);
        CHECK.yes("covers() of 0 1 20", x.covers());
        Nets.target(x, 1, 1, 0);
        CHECK.no("covers() of 1 1 0", x.covers());
        Nets.target(x, 1, 0, 0);
        CHECK.yes("covers() of 1 0 0", x.covers());
    }
}
