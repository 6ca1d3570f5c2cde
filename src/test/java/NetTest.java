/** Promises 1 to 5, 16 and 17 in ordinary use: the net as it is told, and the marking of now. */
public final class NetTest {
    private static final Check CHECK = new Check("NetTest");

    public static void main(String[] args) {
        constants();
        numbers();
        arcs();
        targets();
        firing();
        CHECK.finish();
    }

    private static void constants() {
        CHECK.due("NONE", CoverRounds.NONE, -1);
        CHECK.due("OMEGA", CoverRounds.OMEGA, -2);
    }

    private static void numbers() {
        CoverRounds x = new CoverRounds();
        CHECK.due("first place(3)", x.place(3), 0);
        CHECK.due("first transition()", x.transition(), 0);
        CHECK.due("second place(8)", x.place(8), 1);
        CHECK.due("second transition()", x.transition(), 1);
        CHECK.due("tokens(0)", x.tokens(0), 3);
        CHECK.due("tokens(1)", x.tokens(1), 8);
    }

    private static void arcs() {
        CoverRounds x = Nets.places(20, 0);
        x.transition();
        for (int takes = 0; takes <= 5; takes++) {
            for (int gives = 0; gives <= 5; gives++) {
                CHECK.yes("arc(0, 0, takes, gives)", x.arc(0, 0, takes, gives));
                CHECK.yes("fire(0)", x.fire(0));
                CHECK.due("tokens(0)", x.tokens(0), 20 - takes + gives);
                CHECK.due("tokens(1)", x.tokens(1), 0);
            }
        }
    }

    private static void targets() {
        CoverRounds x = Nets.places(0, 20);
        CHECK.yes("target(1, 20)", x.target(1, 20));
        CHECK.due("rounds() with 20 of 20", x.rounds(), 1);
        CHECK.yes("target(0, 1)", x.target(0, 1));
        CHECK.due("rounds() with 1 of 0", x.rounds(), 0);
        CHECK.yes("target(0, 0)", x.target(0, 0));
        CHECK.due("rounds() with 0 of 0", x.rounds(), 1);
        x.place(0);
        CHECK.due("rounds() with a new place", x.rounds(), 1);
    }

    private static void firing() {
        CoverRounds x = Nets.places(5, 2, 0);
        int both = Nets.transition(x, 0, 2, 0, 1, 1, 1, 2, 0, 3);
        int back = Nets.transition(x, 2, 5, 0, 0, 0, 1);
        CHECK.no("fire(back) at first", x.fire(back));
        CHECK.yes("fire(both)", x.fire(both));
        CHECK.yes("fire(both) again", x.fire(both));
        CHECK.no("fire(both) with 1 token", x.fire(both));
        CHECK.due("tokens(0)", x.tokens(0), 1);
        CHECK.due("tokens(1)", x.tokens(1), 2);
        CHECK.due("tokens(2)", x.tokens(2), 6);
        CHECK.yes("fire(back)", x.fire(back));
        CHECK.due("tokens(0)", x.tokens(0), 2);
        CHECK.due("tokens(2)", x.tokens(2), 1);
        CHECK.no("fire(2)", x.fire(2));
        CHECK.due("tokens(2) behind a refused one", x.tokens(2), 1);
    }
}
