/** Promises 6 to 9 in ordinary use: the rounds, the row of firings and the least ones. */
public final class RoundsTest {
    private static final int NONE = CoverRounds.NONE;
    private static final Check CHECK = new Check("RoundsTest");

    public static void main(String[] args) {
        coverable();
        notCoverable();
        firstRow();
        CHECK.finish();
    }

    private static void coverable() {
        CoverRounds x = Nets.pump();
        Nets.target(x, 0, 1, 2);
        CHECK.due("pump rounds()", x.rounds(), 1);
        CHECK.due("pump steps()", x.steps(), 5);
        int[] row = {0, 1, 0, 1, 0};
        for (int k = 0; k < row.length; k++) {
            CHECK.due("pump witness(k)", x.witness(k), row[k]);
        }
        CHECK.due("pump witness(5)", x.witness(5), NONE);
        CHECK.due("pump least(0)", x.least(0), 1);
        CHECK.due("pump least(1)", x.least(1), 3);
        CHECK.due("pump least(6)", x.least(6), NONE);
    }

    private static void notCoverable() {
        CoverRounds x = Nets.pump();
        Nets.target(x, 1, 1, 0);
        CHECK.due("two tokens rounds()", x.rounds(), 0);
        CHECK.due("two tokens steps()", x.steps(), NONE);
        CHECK.due("two tokens witness(0)", x.witness(0), NONE);
        CHECK.due("two tokens least(0)", x.least(0), 1);
        CHECK.due("two tokens least(1)", x.least(1), 3);
        CHECK.due("two tokens least(2)", x.least(2), 3);
        CHECK.due("two tokens least(3)", x.least(3), NONE);
    }

    /** Transitions 1 and 2 both lead there in two; 0 can fire but loses the way. */
    private static void firstRow() {
        CoverRounds x = Nets.places(1, 0, 0);
        Nets.transition(x, 0, 1, 0);
        Nets.transition(x, 1, 1, 0, 2, 0, 1);
        Nets.transition(x, 0, 1, 0, 1, 0, 1);
        Nets.transition(x, 0, 1, 0, 1, 0, 2);
        Nets.target(x, 0, 0, 1);
        CHECK.due("first row rounds()", x.rounds(), 1);
        CHECK.due("first row steps()", x.steps(), 2);
        CHECK.due("first row witness(0)", x.witness(0), 2);
        CHECK.due("first row witness(1)", x.witness(1), 1);
        CHECK.due("first row witness(2)", x.witness(2), NONE);
    }
}
