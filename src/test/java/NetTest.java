/** Promises 1 to 5, 16 and 17: the net as it is told, and the marking of now. */
public final class NetTest {
    private static final int NONE = CoverRounds.NONE;
    private static final int[] WRONG = {-1, Integer.MIN_VALUE, Integer.MAX_VALUE};
    private static final Check CHECK = new Check("NetTest");

    public static void main(String[] args) {
        constants();
        newObject();
        places();
        transitions();
        arcs();
        arcsRefused();
        targets();
        firing();
        firingStartsAgain();
        firingGoesOn();
        manyFirings();
        CHECK.finish();
    }

    private static void constants() {
        CHECK.due("NONE", CoverRounds.NONE, -1);
        CHECK.due("OMEGA", CoverRounds.OMEGA, -2);
    }

    private static void newObject() {
        CoverRounds x = new CoverRounds();
        CHECK.due("new steps()", x.steps(), NONE);
        CHECK.due("new limits()", x.limits(), NONE);
        CHECK.no("new covers()", x.covers());
        for (int k = -1; k <= 1; k++) {
            CHECK.due("new witness(k)", x.witness(k), NONE);
            CHECK.due("new least(k)", x.least(k), NONE);
            CHECK.due("new most(k)", x.most(k), NONE);
            CHECK.due("new limit(k, 0)", x.limit(k, 0), NONE);
            CHECK.due("new tokens(k)", x.tokens(k), NONE);
            CHECK.no("new live(k)", x.live(k));
            CHECK.no("new fire(k)", x.fire(k));
            CHECK.no("new target(k, 0)", x.target(k, 0));
            CHECK.no("new arc(k, 0, 0, 0)", x.arc(k, 0, 0, 0));
        }
    }

    private static void places() {
        CoverRounds x = new CoverRounds();
        int[] tokens = {0, 20, 1, 19, 7};
        for (int p = 0; p < tokens.length; p++) {
            CHECK.due("place(21)", x.place(21), NONE);
            CHECK.due("place(-1)", x.place(-1), NONE);
            CHECK.due("place(tokens)", x.place(tokens[p]), p);
        }
        CHECK.due("sixth place(0)", x.place(0), NONE);
        for (int wrong : WRONG) {
            CHECK.due("place(wrong)", x.place(wrong), NONE);
        }
        for (int p = 0; p < tokens.length; p++) {
            CHECK.due("tokens(p)", x.tokens(p), tokens[p]);
        }
        CHECK.due("tokens(5)", x.tokens(5), NONE);
        for (int wrong : WRONG) {
            CHECK.due("tokens(wrong)", x.tokens(wrong), NONE);
        }
    }

    private static void transitions() {
        CoverRounds x = new CoverRounds();
        for (int t = 0; t < 6; t++) {
            CHECK.no("fire() before transition()", x.fire(t));
            CHECK.due("transition()", x.transition(), t);
            CHECK.yes("fire() without arcs", x.fire(t));
        }
        CHECK.due("seventh transition()", x.transition(), NONE);
        CHECK.no("fire(6)", x.fire(6));
        for (int wrong : WRONG) {
            CHECK.no("fire(wrong)", x.fire(wrong));
        }
    }

    private static void arcs() {
        CoverRounds x = Nets.places(20, 0);
        x.transition();
        for (int takes = 0; takes <= 5; takes++) {
            for (int gives = 0; gives <= 5; gives++) {
                CHECK.yes("arc(0, 0, takes, gives)", x.arc(0, 0, takes, gives));
                CHECK.yes("fire(0)", x.fire(0));
                CHECK.due("tokens(0)", x.tokens(0), 20 - takes + gives);
                CHECK.due("tokens(1)", x.tokens(1), 0);
            }
        }
    }

    private static void arcsRefused() {
        CoverRounds x = Nets.places(3, 3);
        Nets.transition(x, 0, 1, 2);
        x.fire(0);
        CHECK.no("arc(1, 0, 1, 1)", x.arc(1, 0, 1, 1));
        CHECK.no("arc(0, 2, 1, 1)", x.arc(0, 2, 1, 1));
        CHECK.no("arc(0, 0, 6, 0)", x.arc(0, 0, 6, 0));
        CHECK.no("arc(0, 0, 0, 6)", x.arc(0, 0, 0, 6));
        for (int wrong : WRONG) {
            CHECK.no("arc(wrong, 0, 0, 0)", x.arc(wrong, 0, 0, 0));
            CHECK.no("arc(0, wrong, 0, 0)", x.arc(0, wrong, 0, 0));
            CHECK.no("arc(0, 0, wrong, 0)", x.arc(0, 0, wrong, 0));
            CHECK.no("arc(0, 0, 0, wrong)", x.arc(0, 0, 0, wrong));
        }
        CHECK.due("tokens(0) behind refused arcs", x.tokens(0), 4);
        CHECK.yes("fire(0) behind refused arcs", x.fire(0));
        CHECK.due("tokens(0) behind refused arcs", x.tokens(0), 5);
    }

    private static void targets() {
        CoverRounds x = Nets.places(0, 20);
        CHECK.yes("target(1, 20)", x.target(1, 20));
        CHECK.due("rounds() with 20 of 20", x.rounds(), 1);
        CHECK.yes("target(0, 1)", x.target(0, 1));
        CHECK.due("rounds() with 1 of 0", x.rounds(), 0);
        CHECK.no("target(0, 21)", x.target(0, 21));
        CHECK.no("target(2, 0)", x.target(2, 0));
        for (int wrong : WRONG) {
            CHECK.no("target(0, wrong)", x.target(0, wrong));
            CHECK.no("target(wrong, 0)", x.target(wrong, 0));
        }
        CHECK.due("rounds() behind refused targets", x.rounds(), 0);
        CHECK.yes("target(0, 0)", x.target(0, 0));
        CHECK.due("rounds() with 0 of 0", x.rounds(), 1);
        x.place(0);
        CHECK.due("rounds() with a new place", x.rounds(), 1);
    }

    private static void firing() {
        CoverRounds x = Nets.places(5, 2, 0);
        int both = Nets.transition(x, 0, 2, 0, 1, 1, 1, 2, 0, 3);
        int back = Nets.transition(x, 2, 5, 0, 0, 0, 1);
        CHECK.no("fire(back) at first", x.fire(back));
        CHECK.yes("fire(both)", x.fire(both));
        CHECK.yes("fire(both) again", x.fire(both));
        CHECK.no("fire(both) with 1 token", x.fire(both));
        CHECK.due("tokens(0)", x.tokens(0), 1);
        CHECK.due("tokens(1)", x.tokens(1), 2);
        CHECK.due("tokens(2)", x.tokens(2), 6);
        CHECK.yes("fire(back)", x.fire(back));
        CHECK.due("tokens(0)", x.tokens(0), 2);
        CHECK.due("tokens(2)", x.tokens(2), 1);
        CHECK.no("fire(2)", x.fire(2));
        CHECK.due("tokens(2) behind a refused one", x.tokens(2), 1);
    }

    private static void firingStartsAgain() {
        CoverRounds x = Nets.places(2);
        Nets.transition(x, 0, 1, 0);
        x.fire(0);
        CHECK.due("tokens(0) behind fire", x.tokens(0), 1);
        x.place(4);
        CHECK.due("tokens(0) behind place", x.tokens(0), 2);
        x.fire(0);
        x.transition();
        CHECK.due("tokens(0) behind transition", x.tokens(0), 2);
        x.fire(0);
        x.arc(1, 1, 5, 5);
        CHECK.due("tokens(0) behind arc", x.tokens(0), 2);
        // what takes and gives the same still needs what it takes
        CHECK.no("fire(1) with 4 of 5", x.fire(1));
        x.arc(1, 1, 4, 4);
        CHECK.yes("fire(1) with 4 of 4", x.fire(1));
        CHECK.due("tokens(1)", x.tokens(1), 4);
    }

    private static void firingGoesOn() {
        CoverRounds x = Nets.places(3, 0, 0, 0, 0);
        for (int t = 0; t < 6; t++) {
            Nets.transition(x, 0, 1, 0);
        }
        x.fire(0);
        x.place(1);
        x.place(99);
        x.transition();
        x.arc(0, 0, 9, 9);
        x.target(0, 3);
        x.rounds();
        x.grow();
        x.covers();
        CHECK.due("tokens(0) behind calls that leave it", x.tokens(0), 2);
        CHECK.due("steps() from the first marking", x.steps(), 0);
        CHECK.due("most(0) from the first marking", x.most(0), 3);
    }

    private static void manyFirings() {
        CoverRounds x = Nets.places(20);
        Nets.transition(x, 0, 0, 5);
        for (int k = 0; k < 500; k++) {
            x.fire(0);
        }
        CHECK.due("tokens(0) behind 500 firings", x.tokens(0), 2520);
    }
}
