/** Promises 6 to 9: the rounds, the row of firings and the least ones. */
public final class RoundsTest {
    private static final int NONE = CoverRounds.NONE;
    private static final Check CHECK = new Check("RoundsTest");

    public static void main(String[] args) {
        emptyNet();
        coverable();
        notCoverable();
        firstRow();
        leastOnesGoAway();
        sixtySteps();
        sixtyOneSteps();
        sameAtSixty();
        twoHundredLeast();
        moreThanTwoHundredLeast();
        coverableBeforeTooLarge();
        fiveSources();
        findingsStay();
        wrongNumbers();
        CHECK.finish();
    }

    private static void emptyNet() {
        CoverRounds x = new CoverRounds();
        CHECK.due("empty rounds()", x.rounds(), 1);
        CHECK.due("empty steps()", x.steps(), 0);
        CHECK.due("empty witness(0)", x.witness(0), NONE);
        CHECK.due("empty least(0)", x.least(0), 1);
        CHECK.due("empty least(1)", x.least(1), NONE);
    }

    private static void coverable() {
        CoverRounds x = Nets.pump();
        Nets.target(x, 0, 1, 2);
        CHECK.due("pump rounds()", x.rounds(), 1);
        CHECK.due("pump steps()", x.steps(), 5);
        int[] row = {0, 1, 0, 1, 0};
        for (int k = 0; k < row.length; k++) {
            CHECK.due("pump witness(k)", x.witness(k), row[k]);
        }
        CHECK.due("pump witness(5)", x.witness(5), NONE);
        CHECK.due("pump least(0)", x.least(0), 1);
        CHECK.due("pump least(1)", x.least(1), 3);
        CHECK.due("pump least(6)", x.least(6), NONE);
    }

    private static void notCoverable() {
        CoverRounds x = Nets.pump();
        Nets.target(x, 1, 1, 0);
        CHECK.due("two tokens rounds()", x.rounds(), 0);
        CHECK.due("two tokens steps()", x.steps(), NONE);
        CHECK.due("two tokens witness(0)", x.witness(0), NONE);
        CHECK.due("two tokens least(0)", x.least(0), 1);
        CHECK.due("two tokens least(1)", x.least(1), 3);
        CHECK.due("two tokens least(2)", x.least(2), 3);
        CHECK.due("two tokens least(3)", x.least(3), NONE);
    }

    /** Transitions 1 and 2 both lead there in two; 0 can fire but loses the way. */
    private static void firstRow() {
        CoverRounds x = Nets.places(1, 0, 0);
        Nets.transition(x, 0, 1, 0);
        Nets.transition(x, 1, 1, 0, 2, 0, 1);
        Nets.transition(x, 0, 1, 0, 1, 0, 1);
        Nets.transition(x, 0, 1, 0, 1, 0, 2);
        Nets.target(x, 0, 0, 1);
        CHECK.due("first row rounds()", x.rounds(), 1);
        CHECK.due("first row steps()", x.steps(), 2);
        CHECK.due("first row witness(0)", x.witness(0), 2);
        CHECK.due("first row witness(1)", x.witness(1), 1);
        CHECK.due("first row witness(2)", x.witness(2), NONE);
    }

    /** A source takes one away from the target each round: each new least one drops the one before. */
    private static void leastOnesGoAway() {
        CoverRounds x = Nets.sources(0);
        Nets.target(x, 20);
        CHECK.due("source rounds()", x.rounds(), 1);
        CHECK.due("source steps()", x.steps(), 20);
        for (int i = 0; i <= 20; i++) {
            CHECK.due("source least(i)", x.least(i), 1);
            CHECK.due("source witness(i)", x.witness(i), i < 20 ? 0 : NONE);
        }
    }

    private static void sixtySteps() {
        CoverRounds x = Nets.fiveForOne(0, 0);
        Nets.target(x, 0, 10);
        CHECK.due("60 rounds()", x.rounds(), 1);
        CHECK.due("60 steps()", x.steps(), 60);
        for (int k = 0; k < 60; k++) {
            CHECK.due("60 witness(k)", x.witness(k), k < 50 ? 0 : 1);
        }
        CHECK.due("60 witness(60)", x.witness(60), NONE);
        CHECK.due("60 least(60)", x.least(60), 1);
        CHECK.due("60 least(61)", x.least(61), NONE);
    }

    private static void sixtyOneSteps() {
        CoverRounds x = Nets.fiveForOne(0, 0);
        Nets.target(x, 1, 10);
        CHECK.due("61 rounds()", x.rounds(), NONE);
        CHECK.due("61 steps()", x.steps(), NONE);
        CHECK.due("61 witness(0)", x.witness(0), NONE);
        CHECK.yes("61 least(60)", x.least(60) > 0 && x.least(60) <= 200);
        CHECK.due("61 least(61)", x.least(61), NONE);
    }

    /** Place 2 never gets a token; the rounds reach 0 and 0 at place 0 and 1 in round 59, or in round 60. */
    private static void sameAtSixty() {
        CoverRounds x = Nets.fiveForOne(0, 0, 0);
        Nets.target(x, 5, 9, 1);
        CHECK.due("same at 60 rounds()", x.rounds(), 0);
        CHECK.due("same at 60 least(60)", x.least(60), 1);
        CHECK.due("same at 60 least(61)", x.least(61), NONE);
        Nets.target(x, 0, 10, 1);
        CHECK.due("new at 60 rounds()", x.rounds(), NONE);
        CHECK.due("new at 60 least(60)", x.least(60), 1);
    }

    /** Of three sources, U(i) has as many least ones as there are ways to take i away from the target. */
    private static void twoHundredLeast() {
        CoverRounds x = Nets.sources(0, 0, 0);
        Nets.target(x, 14, 14, 19);
        CHECK.due("200 rounds()", x.rounds(), 1);
        CHECK.due("200 steps()", x.steps(), 47);
        CHECK.due("200 least(1)", x.least(1), 3);
        CHECK.due("200 least(23)", x.least(23), 200);
        CHECK.due("200 least(24)", x.least(24), 200);
        CHECK.due("200 least(47)", x.least(47), 1);
        for (int k = 0; k < 47; k++) {
            CHECK.due("200 witness(k)", x.witness(k), k < 14 ? 0 : k < 28 ? 1 : 2);
        }
    }

    private static void moreThanTwoHundredLeast() {
        CoverRounds x = Nets.sources(0, 0, 0);
        Nets.target(x, 10, 20, 20);
        CHECK.due("201 rounds()", x.rounds(), NONE);
        CHECK.due("201 steps()", x.steps(), NONE);
        CHECK.due("201 witness(0)", x.witness(0), NONE);
        CHECK.due("201 least(24)", x.least(24), 200);
        CHECK.due("201 least(25)", x.least(25), 201);
        CHECK.due("201 least(26)", x.least(26), NONE);
    }

    private static void coverableBeforeTooLarge() {
        CoverRounds x = Nets.sources(0, 5, 20);
        Nets.target(x, 10, 20, 20);
        CHECK.due("201 at the end rounds()", x.rounds(), 1);
        CHECK.due("201 at the end steps()", x.steps(), 25);
        CHECK.due("201 at the end least(25)", x.least(25), 201);
        CHECK.due("201 at the end witness(9)", x.witness(9), 0);
        CHECK.due("201 at the end witness(10)", x.witness(10), 1);
    }

    private static void fiveSources() {
        CoverRounds x = Nets.sources(0, 0, 0, 0, 0);
        Nets.target(x, 20, 20, 20, 20, 20);
        CHECK.due("five sources rounds()", x.rounds(), NONE);
        int[] counts = {1, 5, 15, 35, 70, 126, 210, NONE};
        for (int i = 0; i < counts.length; i++) {
            CHECK.due("five sources least(i)", x.least(i), counts[i]);
        }
    }

    private static void findingsStay() {
        CoverRounds x = Nets.pump();
        Nets.target(x, 0, 0, 1);
        x.rounds();
        x.target(2, 20);
        x.arc(0, 0, 5, 0);
        x.place(3);
        x.transition();
        x.fire(2);
        x.grow();
        CHECK.due("kept steps()", x.steps(), 2);
        CHECK.due("kept witness(0)", x.witness(0), 0);
        CHECK.due("kept witness(1)", x.witness(1), 1);
        CHECK.due("kept least(1)", x.least(1), 2);
        CHECK.due("new rounds()", x.rounds(), 0);
        CHECK.due("new steps()", x.steps(), NONE);
        CHECK.due("new witness(0)", x.witness(0), NONE);
    }

    private static void wrongNumbers() {
        CoverRounds x = Nets.pump();
        Nets.target(x, 0, 0, 1);
        x.rounds();
        int[] wrong = {-1, Integer.MIN_VALUE, Integer.MAX_VALUE, 60, 61};
        for (int k : wrong) {
            CHECK.due("witness(wrong)", x.witness(k), NONE);
            CHECK.due("least(wrong)", x.least(k), NONE);
        }
    }
}
