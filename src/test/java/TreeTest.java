/** Promises 10 to 15: the tree with omegas and what is read from it. */
public final class TreeTest {
    private static final int NONE = CoverRounds.NONE;
    private static final int OMEGA = CoverRounds.OMEGA;
    private static final int[] WRONG = {-1, Integer.MIN_VALUE, Integer.MAX_VALUE, 6, 1000};
    private static final Check CHECK = new Check("TreeTest");

    public static void main(String[] args) {
        emptyNet();
        transitionsWithoutPlaces();
        pump();
        omegaStays();
        accelerationGoesOn();
        twinsOnlyAbove();
        limitsInOrder();
        thousandNodes();
        moreThanThousandNodes();
        manyLimits();
        liveOrNot();
        coversTheTargetOfNow();
        placesBehindTheTree();
        findingsStay();
        wrongNumbers();
        CHECK.finish();
    }

    private static void limit(CoverRounds x, int k, int... want) {
        for (int p = 0; p < want.length; p++) {
            CHECK.due("limit(" + k + ", " + p + ")", x.limit(k, p), want[p]);
        }
        CHECK.due("limit(" + k + ", behind)", x.limit(k, want.length), NONE);
    }

    private static void emptyNet() {
        CoverRounds x = new CoverRounds();
        CHECK.due("empty grow()", x.grow(), 1);
        CHECK.due("empty limits()", x.limits(), 1);
        limit(x, 0);
        CHECK.due("empty most(0)", x.most(0), NONE);
        CHECK.yes("empty covers()", x.covers());
    }

    private static void transitionsWithoutPlaces() {
        CoverRounds x = new CoverRounds();
        for (int t = 0; t < 6; t++) {
            x.transition();
        }
        CHECK.due("bare grow()", x.grow(), 7);
        CHECK.due("bare limits()", x.limits(), 1);
        CHECK.yes("bare live(5)", x.live(5));
    }

    /** Nodes: 1 0 0; 0 1 0; 1 0 w; 0 1 w; 1 0 w. */
    private static void pump() {
        CoverRounds x = Nets.pump();
        CHECK.due("pump grow()", x.grow(), 5);
        CHECK.due("pump most(0)", x.most(0), 1);
        CHECK.due("pump most(1)", x.most(1), 1);
        CHECK.due("pump most(2)", x.most(2), OMEGA);
        CHECK.due("pump limits()", x.limits(), 2);
        limit(x, 0, 0, 1, OMEGA);
        limit(x, 1, 1, 0, OMEGA);
        limit(x, 2, NONE, NONE, NONE);
    }

    /** Nodes: 1 0 0 0; 1 0 w 0; 1 0 w 0 and 0 1 w 0, where nothing is covered: omega less 5 alone is omega. */
    private static void omegaStays() {
        CoverRounds x = Nets.places(1, 0, 0, 0);
        Nets.transition(x, 0, 1, 1, 2, 0, 1);
        Nets.transition(x, 0, 1, 0, 1, 0, 1, 2, 5, 0);
        CHECK.due("omega grow()", x.grow(), 4);
        CHECK.due("omega limits()", x.limits(), 2);
        limit(x, 0, 0, 1, OMEGA, 0);
        limit(x, 1, 1, 0, OMEGA, 0);
        CHECK.yes("omega live(1)", x.live(1));
        CHECK.due("omega most(3)", x.most(3), 0);
    }

    /**
     * Nodes: 1 0; 0 3; then 1 1, which is 1 w by the root, and only so covers 0 3, too: w w. The other net has
     * 0 3 at its root and 1 0 below it, so neither way through the nodes above finds all at once.
     */
    private static void accelerationGoesOn() {
        CoverRounds x = Nets.places(1, 0);
        Nets.transition(x, 0, 1, 0, 1, 0, 3);
        Nets.transition(x, 0, 0, 1, 1, 2, 0);
        CHECK.due("again grow()", x.grow(), 5);
        CHECK.due("again limits()", x.limits(), 1);
        limit(x, 0, OMEGA, OMEGA);
        CoverRounds y = Nets.places(0, 3);
        Nets.transition(y, 0, 0, 1, 1, 3, 0);
        Nets.transition(y, 0, 1, 1, 1, 0, 1);
        CHECK.due("again turned grow()", y.grow(), 5);
        CHECK.due("again turned limits()", y.limits(), 1);
        limit(y, 0, OMEGA, OMEGA);
    }

    /** The marking 0 0 0 comes on two ways: neither node stands above the other one, so both count and go on. */
    private static void twinsOnlyAbove() {
        CoverRounds x = Nets.places(1, 1, 0);
        Nets.transition(x, 0, 1, 0);
        Nets.transition(x, 1, 1, 0);
        CHECK.due("two ways grow()", x.grow(), 5);
        Nets.transition(x, 2, 0, 0);
        CHECK.due("two ways and twins grow()", x.grow(), 10);
    }

    /** Nodes: 1 0 0 0; 0 3 1 0; 0 0 0 1; 0 w 0 1 twice. Omega is more than 3, so it stands behind. */
    private static void limitsInOrder() {
        CoverRounds x = Nets.places(1, 0, 0, 0);
        Nets.transition(x, 3, 1, 1, 1, 0, 1);
        Nets.transition(x, 0, 1, 0, 3, 0, 1);
        Nets.transition(x, 0, 1, 0, 1, 0, 3, 2, 0, 1);
        CHECK.due("order grow()", x.grow(), 5);
        CHECK.due("order limits()", x.limits(), 3);
        limit(x, 0, 0, 3, 1, 0);
        limit(x, 1, 0, OMEGA, 0, 1);
        limit(x, 2, 1, 0, 0, 0);
        CHECK.due("order most(1)", x.most(1), OMEGA);
        CHECK.due("order most(2)", x.most(2), 1);
    }

    private static void thousandNodes() {
        CoverRounds x = Nets.sinks(9, 3);
        CHECK.due("1000 grow()", x.grow(), 1000);
        CHECK.due("1000 limits()", x.limits(), 1);
        limit(x, 0, 9, 3);
        CHECK.due("1000 most(1)", x.most(1), 3);
    }

    /** As with 1000 nodes, but for one more at the root: the others wait for a token of place 3. */
    private static void moreThanThousandNodes() {
        CoverRounds x = Nets.sinks(9, 3);
        x.grow();
        x.place(1);
        x.place(0);
        x.arc(0, 3, 1, 1);
        x.arc(1, 3, 1, 1);
        Nets.transition(x, 2, 1, 0, 3, 0, 1);
        CHECK.due("1001 grow()", x.grow(), NONE);
        CHECK.due("1001 limits()", x.limits(), NONE);
        CHECK.due("1001 most(0)", x.most(0), NONE);
        CHECK.due("1001 limit(0, 0)", x.limit(0, 0), NONE);
        CHECK.no("1001 live(0)", x.live(0));
        CHECK.no("1001 covers()", x.covers());
        x.arc(2, 2, 2, 0);
        CHECK.due("grow() behind one that was too large", x.grow(), 1);
        CHECK.due("limits() behind one that was too large", x.limits(), 1);
        CHECK.no("live(0) behind one that was too large", x.live(0));
        CHECK.yes("covers() behind one that was too large", x.covers());
    }

    /** Tokens only move, so each marking is a limit; they stand in order though the tree has them mixed. */
    private static void manyLimits() {
        CoverRounds x = Nets.places(5, 0, 0);
        Nets.transition(x, 0, 1, 0, 2, 0, 1);
        Nets.transition(x, 0, 1, 0, 1, 0, 1);
        CHECK.due("moves grow()", x.grow(), 63);
        CHECK.due("moves limits()", x.limits(), 21);
        int k = 0;
        for (int a = 0; a <= 5; a++) {
            for (int b = 0; a + b <= 5; b++) {
                limit(x, k, a, b, 5 - a - b);
                k++;
            }
        }
    }

    private static void liveOrNot() {
        CoverRounds x = Nets.places(4, 0);
        int dead = Nets.transition(x, 0, 5, 0);
        int alive = Nets.transition(x, 0, 4, 0, 1, 0, 1);
        int later = Nets.transition(x, 1, 1, 0);
        int never = Nets.transition(x, 1, 2, 0);
        CHECK.no("live(alive) without a tree", x.live(alive));
        CHECK.due("live grow()", x.grow(), 3);
        CHECK.no("live(dead)", x.live(dead));
        CHECK.yes("live(alive)", x.live(alive));
        CHECK.yes("live(later)", x.live(later));
        CHECK.no("live(never)", x.live(never));
        x.arc(later, 0, 5, 0);
        x.grow();
        CHECK.no("live(later) in the next tree", x.live(later));
    }

    private static void coversTheTargetOfNow() {
        CoverRounds x = Nets.pump();
        CHECK.no("covers() without a tree", x.covers());
        x.grow();
        CHECK.yes("covers() of 0 0 0", x.covers());
        Nets.target(x, 0, 1, 20);
        CHECK.yes("covers() of 0 1 20", x.covers());
        Nets.target(x, 1, 1, 0);
        CHECK.no("covers() of 1 1 0", x.covers());
        Nets.target(x, 1, 0, 0);
        CHECK.yes("covers() of 1 0 0", x.covers());
    }

    private static void placesBehindTheTree() {
        CoverRounds x = Nets.pump();
        x.grow();
        x.place(4);
        CHECK.no("covers() with a place behind", x.covers());
        CHECK.due("most(3) with a place behind", x.most(3), NONE);
        CHECK.due("limit(0, 3) with a place behind", x.limit(0, 3), NONE);
        CHECK.due("most(2) with a place behind", x.most(2), OMEGA);
        x.grow();
        CHECK.yes("covers() in the next tree", x.covers());
        CHECK.due("most(3) in the next tree", x.most(3), 4);
        x.place(21);
        CHECK.yes("covers() with a place refused", x.covers());
    }

    private static void findingsStay() {
        CoverRounds x = Nets.pump();
        x.grow();
        x.arc(0, 0, 5, 0);
        x.transition();
        x.target(0, 1);
        x.rounds();
        x.fire(2);
        CHECK.due("kept limits()", x.limits(), 2);
        CHECK.due("kept most(2)", x.most(2), OMEGA);
        CHECK.yes("kept live(0)", x.live(0));
        CHECK.no("live() of one behind the tree", x.live(2));
        CHECK.yes("kept covers()", x.covers());
        limit(x, 0, 0, 1, OMEGA);
        CHECK.due("new grow()", x.grow(), 2);
        CHECK.no("new live(0)", x.live(0));
        CHECK.yes("new live(2)", x.live(2));
        limit(x, 0, 1, 0, 0);
    }

    private static void wrongNumbers() {
        CoverRounds x = Nets.pump();
        x.grow();
        for (int wrong : WRONG) {
            CHECK.due("most(wrong)", x.most(wrong), NONE);
            CHECK.due("limit(wrong, 0)", x.limit(wrong, 0), NONE);
            CHECK.due("limit(0, wrong)", x.limit(0, wrong), NONE);
            CHECK.no("live(wrong)", x.live(wrong));
        }
    }
}
