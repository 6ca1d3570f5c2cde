/** The edges of the tree with omegas and of what is read from it: 'Terms', promises 10 to 15. */
public final class TreeEdgesTest {
    private static final int NONE = CoverRounds.NONE;
    private static final int OMEGA = CoverRounds.OMEGA;
    private static final Check CHECK = new Check("TreeEdgesTest");

    public static void main(String[] args) {
        omegaIsMore();
        omegaStaysOmega();
        rootIsTheFirstMarking();
        twinAboveHasNoChildren();
        twinElsewhereHasChildren();
        childForEachTransition();
        acceleratedByTheNodeItself();
        acceleratedByTheRoot();
        notAcceleratedByTheSame();
        notAcceleratedByTheUncovered();
        notAcceleratedByOtherWays();
        allPlacesWithMore();
        asLongAsThereIsOne();
        limitsHaveNoneGreater();
        limitsEachOnce();
        limitsInTheirOrder();
        thousandNodes();
        moreThanThousandNodes();
        farMoreThanThousandNodes();
        nothingIsFoundThen();
        mostOfNoSuchPlace();
        mostOfNone();
        mostOfTheTreeBefore();
        mostWithoutTree();
        liveOfNoSuchTransition();
        liveWithoutTree();
        liveAtTheEdge();
        limitsWithoutTree();
        limitOfNoSuchNumber();
        limitOfNoSuchPlace();
        limitWithoutTree();
        coversAsItIsNow();
        coversByOneMarking();
        coversWithoutTree();
        coversWithPlacesBehind();
        staysUntilTheNext();
        staysBehindRefused();
        growsOnAndOn();
        CHECK.finish();
    }

    private static void limit(CoverRounds x, int k, int... want) {
        for (int p = 0; p < want.length; p++) {
            CHECK.due("limit(" + k + ", " + p + ")", x.limit(k, p), want[p]);
        }
        CHECK.due("limit(" + k + ", behind)", x.limit(k, want.length), NONE);
    }

    /** Asks grow() and how many limits there are. */
    private static void grow(CoverRounds x, int nodes, int limits) {
        CHECK.due("grow()", x.grow(), nodes);
        CHECK.due("limits()", x.limits(), limits);
    }

    private static void omegaIsMore() {
        CHECK.says("Terms: omega is more than any number");
        CoverRounds x = Nets.places(0);
        Nets.transition(x, 0, 0, 1);
        Nets.transition(x, 0, 5, 0);
        grow(x, 4, 1);
        CHECK.yes("live(1) that takes 5 of omega", x.live(1));
        x.target(0, 20);
        CHECK.yes("covers() of 20", x.covers());
        CHECK.due("most(0), which was 0 at first", x.most(0), OMEGA);
        limit(x, 0, OMEGA);
    }

    /** Nodes: 1 0; 1 w; then 1 w by all but transition 1, and by that 0 w, where 2 and 3 lead to 0 w again. */
    private static void omegaStaysOmega() {
        CHECK.says("Terms: omega more or less a number is omega");
        CoverRounds x = Nets.places(1, 0);
        Nets.transition(x, 0, 1, 1, 1, 0, 1);
        Nets.transition(x, 0, 1, 0, 1, 5, 0);
        Nets.transition(x, 1, 5, 0);
        Nets.transition(x, 1, 5, 5);
        grow(x, 8, 1);
        limit(x, 0, 1, OMEGA);
        for (int t = 0; t < 4; t++) {
            CHECK.yes("live(" + t + ")", x.live(t));
        }
    }

    private static void rootIsTheFirstMarking() {
        CHECK.says("Terms: its root is the first marking");
        CoverRounds x = new CoverRounds();
        grow(x, 1, 1);
        limit(x, 0);
        Nets.placesOn(x, 20, 0, 7, 1, 20);
        grow(x, 1, 1);
        limit(x, 0, 20, 0, 7, 1, 20);
        Nets.transition(x, 0, 5, 0, 1, 0, 5);
        x.fire(0);
        CHECK.due("grow() behind fire(0)", x.grow(), 5);
        CHECK.due("most(0) behind fire(0)", x.most(0), 20);
        CHECK.due("most(1) behind fire(0)", x.most(1), 20);
    }

    private static void twinAboveHasNoChildren() {
        CHECK.says("Terms: a node whose marking no node above it has, has children");
        CoverRounds x = new CoverRounds();
        x.transition();
        grow(x, 2, 1);
        CoverRounds y = Nets.places(1, 0, 0);
        Nets.transition(y, 0, 1, 0, 1, 0, 1);
        Nets.transition(y, 1, 1, 0, 2, 0, 1);
        Nets.transition(y, 2, 1, 0, 0, 0, 1);
        grow(y, 4, 3);
    }

    /** 0 0 1 comes by either transition; neither node is above the other one, so both have a child. */
    private static void twinElsewhereHasChildren() {
        CHECK.says("Terms: above it (on the way to the root), not elsewhere");
        CoverRounds x = Nets.places(1, 0, 0);
        Nets.transition(x, 0, 1, 0, 2, 0, 1);
        Nets.transition(x, 0, 1, 0, 2, 0, 1);
        Nets.transition(x, 2, 1, 0, 1, 0, 1);
        grow(x, 5, 3);
    }

    private static void childForEachTransition() {
        CHECK.says("Terms: has a child for each transition that can fire at its marking");
        CoverRounds x = new CoverRounds();
        for (int t = 1; t <= 6; t++) {
            x.transition();
            grow(x, 1 + t, 1);
        }
        CoverRounds y = Nets.places(2);
        Nets.transition(y, 0, 3, 0);
        Nets.transition(y, 0, 2, 0);
        Nets.transition(y, 0, 1, 0);
        grow(y, 4, 1);
    }

    private static void acceleratedByTheNodeItself() {
        CHECK.says("Terms: a node on the way from the root to that node (this one, too)");
        CoverRounds x = Nets.places(1, 0, 0);
        Nets.transition(x, 0, 1, 0, 1, 0, 1);
        Nets.transition(x, 1, 1, 1, 2, 0, 1);
        grow(x, 4, 2);
        limit(x, 0, 0, 1, OMEGA);
        limit(x, 1, 1, 0, 0);
    }

    /** The marking comes back behind four others with one token more at place 4. */
    private static void acceleratedByTheRoot() {
        CHECK.says("Terms: from the root on");
        CoverRounds x = Nets.places(1, 0, 0, 0, 0);
        Nets.transition(x, 0, 1, 0, 1, 0, 1);
        Nets.transition(x, 1, 1, 0, 2, 0, 1);
        Nets.transition(x, 2, 1, 0, 3, 0, 1);
        Nets.transition(x, 3, 1, 0, 0, 0, 1, 4, 0, 1);
        grow(x, 9, 4);
        limit(x, 0, 0, 0, 0, 1, OMEGA);
        limit(x, 3, 1, 0, 0, 0, OMEGA);
    }

    private static void notAcceleratedByTheSame() {
        CHECK.says("Terms: and is not the same");
        CoverRounds x = Nets.places(5, 0);
        Nets.transition(x, 0, 5, 5);
        grow(x, 2, 1);
        limit(x, 0, 5, 0);
    }

    private static void notAcceleratedByTheUncovered() {
        CHECK.says("Terms: whose marking is covered by the child's");
        CoverRounds x = Nets.places(1, 0, 0, 0, 0);
        Nets.transition(x, 0, 1, 0, 1, 0, 5, 2, 0, 5, 3, 0, 5, 4, 0, 5);
        grow(x, 2, 2);
        limit(x, 0, 0, 5, 5, 5, 5);
        limit(x, 1, 1, 0, 0, 0, 0);
        CoverRounds y = Nets.places(0, 0, 0, 0, 1);
        Nets.transition(y, 0, 0, 5, 1, 0, 5, 2, 0, 5, 3, 0, 5, 4, 1, 0);
        grow(y, 2, 2);
        limit(y, 0, 0, 0, 0, 0, 1);
        limit(y, 1, 5, 5, 5, 5, 0);
    }

    private static void notAcceleratedByOtherWays() {
        CHECK.says("Terms: on the way from the root to that node, not on another one");
        CoverRounds x = Nets.places(1, 0);
        Nets.transition(x, 0, 1, 0, 1, 0, 1);
        Nets.transition(x, 0, 1, 0, 1, 0, 2);
        grow(x, 3, 2);
        limit(x, 0, 0, 2);
        limit(x, 1, 1, 0);
    }

    private static void allPlacesWithMore() {
        CHECK.says("Terms: all places, where the child has more, become omega");
        CoverRounds x = Nets.places(1, 2, 3, 4, 20);
        Nets.transition(x, 0, 1, 2, 1, 2, 2, 2, 0, 5, 4, 0, 1);
        grow(x, 3, 1);
        limit(x, 0, OMEGA, 2, OMEGA, 4, OMEGA);
    }

    /** Nodes: 1 0; 0 3; then 1 1, which is 1 w by the root, and only so covers 0 3, too: w w. */
    private static void asLongAsThereIsOne() {
        CHECK.says("Terms: as long as there is a node");
        CoverRounds x = Nets.places(1, 0);
        Nets.transition(x, 0, 1, 0, 1, 0, 3);
        Nets.transition(x, 0, 0, 1, 1, 2, 0);
        grow(x, 5, 1);
        limit(x, 0, OMEGA, OMEGA);
        CoverRounds y = Nets.places(0, 3);
        Nets.transition(y, 0, 0, 1, 1, 3, 0);
        Nets.transition(y, 0, 1, 1, 1, 0, 1);
        grow(y, 5, 1);
        limit(y, 0, OMEGA, OMEGA);
    }

    /** 3 0 is greater than 2 0, 1 0 and 0 0; 0 1 and 2 1 stand behind it, and 2 1 alone is not under another. */
    private static void limitsHaveNoneGreater() {
        CHECK.says("Terms: the limits are the markings that no other one of it is greater than");
        CoverRounds x = Nets.places(3, 0);
        Nets.transition(x, 0, 1, 0);
        grow(x, 4, 1);
        limit(x, 0, 3, 0);
        Nets.transition(x, 0, 3, 2, 1, 0, 1);
        grow(x, 7, 2);
        limit(x, 0, 2, 1);
        limit(x, 1, 3, 0);
        limit(x, 2, NONE, NONE);
    }

    private static void limitsEachOnce() {
        CHECK.says("Terms: each once");
        CoverRounds x = Nets.places(1, 0);
        for (int t = 0; t < 6; t++) {
            Nets.transition(x, 0, 1, 0, 1, 0, 1);
        }
        grow(x, 7, 2);
        limit(x, 0, 0, 1);
        limit(x, 1, 1, 0);
        limit(x, 2, NONE, NONE);
    }

    /** The greater number at an earlier place stands behind, whatever the later ones have; omega behind all. */
    private static void limitsInTheirOrder() {
        CHECK.says("Terms: in their order: by place 0, then 1, and so on, the lesser first");
        CoverRounds x = Nets.places(1, 0, 0, 0);
        Nets.transition(x, 3, 1, 1, 1, 0, 1);
        Nets.transition(x, 0, 1, 0, 3, 0, 1);
        Nets.transition(x, 0, 1, 0, 1, 0, 5, 2, 0, 1);
        Nets.transition(x, 0, 1, 0, 1, 0, 5, 2, 0, 0, 3, 0, 0);
        Nets.transition(x, 0, 1, 0, 1, 0, 4, 2, 0, 5);
        Nets.transition(x, 0, 1, 0, 2, 0, 5);
        CHECK.due("grow()", x.grow(), 8);
        CHECK.due("limits()", x.limits(), 4);
        limit(x, 0, 0, 4, 5, 0);
        limit(x, 1, 0, 5, 1, 0);
        limit(x, 2, 0, OMEGA, 0, 1);
        limit(x, 3, 1, 0, 0, 0);
        CoverRounds y = Nets.places(2, 0, 0, 0, 0);
        Nets.transition(y, 0, 1, 0, 4, 0, 1);
        Nets.transition(y, 0, 1, 0, 3, 0, 1);
        CHECK.due("grow() of moves", y.grow(), 7);
        CHECK.due("limits() of moves", y.limits(), 6);
        limit(y, 0, 0, 0, 0, 0, 2);
        limit(y, 1, 0, 0, 0, 1, 1);
        limit(y, 2, 0, 0, 0, 2, 0);
        limit(y, 3, 1, 0, 0, 0, 1);
        limit(y, 4, 1, 0, 0, 1, 0);
        limit(y, 5, 2, 0, 0, 0, 0);
    }

    private static void thousandNodes() {
        CHECK.says("Promise 10: answers how many nodes it has, 1000 at most");
        CoverRounds x = Nets.sinks(9, 3);
        grow(x, 1000, 1);
        limit(x, 0, 9, 3);
        CHECK.due("most(1)", x.most(1), 3);
        CHECK.yes("live(1)", x.live(1));
        CHECK.yes("covers()", x.covers());
        Nets.placesOn(x, 20, 0, 20);
        grow(x, 1000, 1);
        limit(x, 0, 9, 3, 20, 0, 20);
    }

    /** As with 1000 nodes, but for one more at the root: the others wait for a token of place 3. */
    private static CoverRounds oneTooMany() {
        CoverRounds x = Nets.sinks(9, 3);
        grow(x, 1000, 1);
        x.place(1);
        x.place(0);
        x.arc(0, 3, 1, 1);
        x.arc(1, 3, 1, 1);
        Nets.transition(x, 2, 1, 0, 3, 0, 1);
        return x;
    }

    private static void moreThanThousandNodes() {
        CHECK.says("Promise 10: NONE when there are more than 1000");
        CoverRounds x = oneTooMany();
        CHECK.due("grow() of 1001", x.grow(), NONE);
        // without that one more the same net has 1000 again, so it was just one too many
        Nets.placesOn(x, 1);
        x.arc(2, 2, 0, 0);
        x.arc(2, 3, 0, 0);
        x.arc(2, 4, 2, 0);
        x.arc(0, 3, 0, 0);
        x.arc(1, 3, 0, 0);
        CHECK.due("grow() of 1000 behind it", x.grow(), 1000);
    }

    private static void farMoreThanThousandNodes() {
        CHECK.says("Promise 10: NONE when there are more than 1000, and be it millions");
        CoverRounds x = Nets.sinks(20, 20, 20, 20, 20);
        CHECK.due("grow()", x.grow(), NONE);
        CHECK.due("limits()", x.limits(), NONE);
    }

    private static void nothingIsFoundThen() {
        CHECK.says("Promise 10: (nothing is found then)");
        CoverRounds x = oneTooMany();
        CHECK.due("grow()", x.grow(), NONE);
        CHECK.due("limits()", x.limits(), NONE);
        CHECK.no("covers()", x.covers());
        for (int k = 0; k <= 4; k++) {
            CHECK.due("most(" + k + ")", x.most(k), NONE);
            CHECK.no("live(" + k + ")", x.live(k));
            CHECK.due("limit(0, " + k + ")", x.limit(0, k), NONE);
            CHECK.due("limit(" + k + ", 0)", x.limit(k, 0), NONE);
        }
        x.arc(2, 2, 2, 0);
        grow(x, 1, 1);
        CHECK.no("live(0) in the next tree", x.live(0));
        CHECK.yes("covers() in the next tree", x.covers());
    }

    private static void mostOfNoSuchPlace() {
        CHECK.says("Promise 11: NONE when there is no such place in it");
        CoverRounds x = new CoverRounds();
        for (int p = 0; p <= 5; p++) {
            x.grow();
            CHECK.due("most(" + p + ") in a tree with " + p, x.most(p), NONE);
            x.place(3);
            CHECK.due("most(" + p + ") of a place behind the tree", x.most(p), NONE);
        }
        for (int never : Answers.NEVER) {
            CHECK.due("most(" + never + ")", x.most(never), NONE);
        }
        for (int p = 0; p < 5; p++) {
            CHECK.due("most(" + p + ")", x.most(p), 3);
        }
    }

    private static void mostOfNone() {
        CHECK.says("Promise 11: the most tokens that a place has, be it 0, 20 or far more, or omega");
        CoverRounds x = Nets.places(0, 20, 20, 0, 0);
        Nets.transition(x, 2, 1, 0, 3, 0, 5);
        Nets.transition(x, 4, 0, 0, 0, 1, 0);
        grow(x, 21, 21);
        CHECK.due("most(0)", x.most(0), 0);
        CHECK.due("most(1)", x.most(1), 20);
        CHECK.due("most(2)", x.most(2), 20);
        CHECK.due("most(3)", x.most(3), 100);
        CHECK.due("most(4)", x.most(4), 0);
        x.arc(0, 2, 0, 0);
        grow(x, 3, 1);
        CHECK.due("most(3) without bound", x.most(3), OMEGA);
    }

    /** The tree before had more nodes and limits, with 100 tokens at place 1. */
    private static void mostOfTheTreeBefore() {
        CHECK.says("Promise 11: in the tree that was grown, not in the one before");
        CoverRounds x = Nets.places(20, 0, 0);
        Nets.transition(x, 0, 1, 0, 1, 0, 5);
        grow(x, 21, 21);
        CHECK.due("most(1)", x.most(1), 100);
        x.target(1, 20);
        CHECK.yes("covers()", x.covers());
        x.arc(0, 2, 1, 0);
        grow(x, 1, 1);
        CHECK.due("next most(0)", x.most(0), 20);
        CHECK.due("next most(1)", x.most(1), 0);
        CHECK.no("next covers()", x.covers());
        CHECK.no("next live(0)", x.live(0));
    }

    private static void mostWithoutTree() {
        CHECK.says("Promise 11: NONE when there is no tree");
        CoverRounds x = Nets.pump();
        x.rounds();
        for (int p = 0; p < 3; p++) {
            CHECK.due("most(" + p + ")", x.most(p), NONE);
        }
    }

    private static void liveOfNoSuchTransition() {
        CHECK.says("Promise 12: false when there is none such");
        CoverRounds x = Nets.places(0);
        for (int t = 0; t <= 6; t++) {
            x.grow();
            CHECK.no("live(" + t + ") in a tree with " + t, x.live(t));
            x.transition();
            CHECK.no("live(" + t + ") of one behind the tree", x.live(t));
        }
        for (int never : Answers.NEVER) {
            CHECK.no("live(" + never + ")", x.live(never));
        }
        for (int t = 0; t < 6; t++) {
            CHECK.yes("live(" + t + ")", x.live(t));
        }
    }

    private static void liveWithoutTree() {
        CHECK.says("Promise 12: false without a tree");
        CoverRounds x = Nets.pump();
        x.rounds();
        CHECK.no("live(0)", x.live(0));
        CHECK.no("live(1)", x.live(1));
    }

    /** Transition 0 takes just what there is, 1 one more; 2 takes what 0 gives, 3 one more; 4 takes what is taken. */
    private static void liveAtTheEdge() {
        CHECK.says("Promise 12: whether a transition can fire at some marking of the tree");
        CoverRounds x = Nets.places(4, 0, 0);
        Nets.transition(x, 0, 4, 0, 1, 0, 2);
        Nets.transition(x, 0, 5, 5);
        Nets.transition(x, 1, 2, 0, 2, 0, 1);
        Nets.transition(x, 1, 3, 3);
        Nets.transition(x, 0, 1, 1, 1, 1, 1);
        CHECK.due("grow()", x.grow(), 3);
        boolean[] want = {true, false, true, false, false};
        for (int t = 0; t < want.length; t++) {
            CHECK.due("live(" + t + ")", x.live(t) ? 1 : 0, want[t] ? 1 : 0);
        }
        x.arc(0, 0, 5, 0);
        CHECK.due("next grow()", x.grow(), 1);
        CHECK.no("next live(0)", x.live(0));
        CHECK.no("next live(2)", x.live(2));
    }

    private static void limitsWithoutTree() {
        CHECK.says("Promise 13: NONE when there is no tree");
        CoverRounds x = Nets.pump();
        CHECK.due("limits() at first", x.limits(), NONE);
        x.rounds();
        CHECK.due("limits() behind rounds()", x.limits(), NONE);
        grow(x, 5, 2);
    }

    private static void limitOfNoSuchNumber() {
        CHECK.says("Promise 14: NONE when there are none such limits");
        CoverRounds x = Nets.pump();
        grow(x, 5, 2);
        for (int p = 0; p < 3; p++) {
            CHECK.due("limit(2, " + p + ")", x.limit(2, p), NONE);
            CHECK.due("limit(5, " + p + ")", x.limit(5, p), NONE);
            for (int never : Answers.NEVER) {
                CHECK.due("limit(" + never + ", " + p + ")", x.limit(never, p), NONE);
            }
        }
        // a tree with fewer limits: those of the one before are gone
        x.arc(0, 0, 5, 0);
        grow(x, 1, 1);
        limit(x, 0, 1, 0, 0);
        limit(x, 1, NONE, NONE, NONE);
    }

    private static void limitOfNoSuchPlace() {
        CHECK.says("Promise 14: NONE when there are none such places");
        CoverRounds x = Nets.pump();
        grow(x, 5, 2);
        x.place(6);
        for (int k = 0; k < 2; k++) {
            CHECK.due("limit(" + k + ", 3) of a place behind the tree", x.limit(k, 3), NONE);
            CHECK.due("limit(" + k + ", 4)", x.limit(k, 4), NONE);
            CHECK.due("limit(" + k + ", 5)", x.limit(k, 5), NONE);
            for (int never : Answers.NEVER) {
                CHECK.due("limit(" + k + ", " + never + ")", x.limit(k, never), NONE);
                CHECK.due("limit(" + never + ", " + never + ")", x.limit(never, never), NONE);
            }
        }
        x.grow();
        CHECK.due("limit(0, 3) in the next tree", x.limit(0, 3), 6);
        CHECK.due("limit(0, 4) in the next tree", x.limit(0, 4), NONE);
    }

    private static void limitWithoutTree() {
        CHECK.says("Promise 14: NONE without a tree");
        CoverRounds x = Nets.pump();
        x.rounds();
        limit(x, 0, NONE, NONE, NONE);
        limit(x, 1, NONE, NONE, NONE);
    }

    private static void coversAsItIsNow() {
        CHECK.says("Promise 15: covers the target, as it is now");
        CoverRounds x = Nets.places(20, 0);
        x.target(1, 1);
        grow(x, 1, 1);
        CHECK.no("covers() of 0 1", x.covers());
        x.target(1, 0);
        CHECK.yes("covers() of 0 0", x.covers());
        for (int tokens = 0; tokens <= 20; tokens++) {
            x.target(0, tokens);
            CHECK.yes("covers() of " + tokens + " 0", x.covers());
        }
        x.target(0, 21);
        CHECK.yes("covers() behind a refused target()", x.covers());
        CoverRounds y = Nets.places(19);
        y.target(0, 20);
        y.grow();
        CHECK.no("covers() of 20 by 19", y.covers());
    }

    private static void coversByOneMarking() {
        CHECK.says("Promise 15: whether some marking of the tree covers the target, one for all places");
        CoverRounds x = Nets.pump();
        x.grow();
        Nets.target(x, 1, 1, 0);
        CHECK.no("covers() of 1 1 0", x.covers());
        Nets.target(x, 0, 1, 20);
        CHECK.yes("covers() of 0 1 20", x.covers());
        Nets.target(x, 1, 0, 20);
        CHECK.yes("covers() of 1 0 20", x.covers());
        Nets.target(x, 2, 0, 0);
        CHECK.no("covers() of 2 0 0", x.covers());
    }

    private static void coversWithoutTree() {
        CHECK.says("Promise 15: false when there is no tree");
        CoverRounds x = new CoverRounds();
        CHECK.no("covers() on an empty net", x.covers());
        CHECK.due("rounds()", x.rounds(), 1);
        CHECK.no("covers() behind rounds()", x.covers());
        x.grow();
        CHECK.yes("covers() behind grow()", x.covers());
        CoverRounds y = Nets.sinks(20, 20);
        CHECK.due("grow() of too many", y.grow(), NONE);
        CHECK.no("covers() behind it", y.covers());
    }

    private static void coversWithPlacesBehind() {
        CHECK.says("Promise 15: false when places came behind it");
        CoverRounds x = new CoverRounds();
        x.grow();
        for (int p = 0; p < 5; p++) {
            CHECK.yes("covers() with " + p, x.covers());
            CHECK.due("place(21)", x.place(21), NONE);
            CHECK.yes("covers() behind a refused place()", x.covers());
            x.place(20);
            CHECK.no("covers() with a place behind", x.covers());
            x.target(p, 1);
            CHECK.no("covers() with a target at it", x.covers());
            x.grow();
        }
        CHECK.yes("covers() with 5", x.covers());
        CHECK.due("sixth place(0)", x.place(0), NONE);
        CHECK.yes("covers() behind a sixth place()", x.covers());
    }

    private static void staysUntilTheNext() {
        CHECK.says("Terms: what grow() found stays until the next of these");
        CoverRounds x = Nets.pump();
        grow(x, 5, 2);
        Answers before = Answers.ofTree(x);
        x.target(0, 20);
        stays("target()", x, before);
        x.fire(0);
        stays("fire()", x, before);
        x.arc(0, 0, 5, 0);
        stays("arc()", x, before);
        x.transition();
        stays("transition()", x, before);
        x.place(3);
        stays("place()", x, before);
        x.rounds();
        stays("rounds()", x, before);
        grow(x, 2, 1);
        limit(x, 0, 1, 0, 0, 3);
        CHECK.no("next live(0)", x.live(0));
        CHECK.yes("next live(2)", x.live(2));
        CHECK.due("next most(2)", x.most(2), 0);
    }

    private static void stays(String behind, CoverRounds x, Answers before) {
        CHECK.due("others behind " + behind, Answers.ofTree(x).otherThan(before), 0);
    }

    private static void staysBehindRefused() {
        CHECK.says("Terms: a call that is refused changes nothing of what grow() found");
        CoverRounds x = Nets.pump();
        grow(x, 5, 2);
        Answers before = Answers.ofTree(x);
        x.place(21);
        x.arc(0, 0, 6, 0);
        x.arc(2, 0, 0, 0);
        x.target(3, 0);
        x.fire(1);
        stays("refused ones", x, before);
        CHECK.yes("covers()", x.covers());
        grow(x, 5, 2);
        stays("grow() once more", x, before);
    }

    /** The rows inside are used again: nothing of one call may be left to the next. */
    private static void growsOnAndOn() {
        CHECK.says("What it is: an object is used for at most 512 calls");
        CoverRounds x = Nets.sinks(9, 3);
        x.transition();
        for (int k = 0; k < 70; k++) {
            x.arc(2, 1, 0, 0);
            CHECK.due("grow() with twins everywhere", x.grow(), NONE);
            x.arc(2, 1, 4, 0);
            CHECK.due("grow() of 1000", x.grow(), 1000);
            x.arc(0, 0, 5, 0);
            CHECK.due("grow() of few", x.grow(), 14);
            x.arc(0, 0, 1, 0);
        }
        CHECK.due("limits()", x.limits(), 1);
        limit(x, 0, 9, 3);
    }
}
