import java.util.List;

/** The edges of the rounds, of the row of firings and of the least ones: 'Terms', promises 6 to 9. */
public final class RoundsEdgesTest {
    private static final int NONE = CoverRounds.NONE;
    private static final Check CHECK = new Check("RoundsEdgesTest");

    public static void main(String[] args) {
        targetAtFirst();
        perhapsNoFiring();
        asManyOrMoreAtEachPlace();
        firesIntoTheRoundBefore();
        thoseOfTheRoundBefore();
        leastCoverNoOther();
        coverableAtSixty();
        coverableBeforeTooLarge();
        tooLargeAboveTwoHundred();
        twoHundredGoOn();
        notCoverableAboveZeroAlone();
        sameAndNotJustAsMany();
        notCoverableBeforeSixty();
        tooLargeAtSixty();
        greatestNumbers();
        fullNet();
        fromTheFirstMarking();
        stepsWithoutRounds();
        stepsWhenNotCoverable();
        stepsWhenTooLarge();
        witnessOfNoSuchFiring();
        witnessOfNoRow();
        witnessOfAShorterRow();
        witnessByTheNumbers();
        witnessOfTheShortestRow();
        leastOfTooLargeRounds();
        leastOfNoSuchRound();
        leastOfFewerRounds();
        staysUntilTheNext();
        staysBehindRefused();
        roundsOnAndOn();
        CHECK.finish();
    }

    /** Asks rounds() and all of the row; a row that is due tells that the rounds ended as coverable. */
    private static void row(String name, CoverRounds x, int... want) {
        CHECK.due(name + " rounds()", x.rounds(), 1);
        CHECK.due(name + " steps()", x.steps(), want.length);
        for (int k = 0; k < want.length; k++) {
            CHECK.due(name + " witness(" + k + ")", x.witness(k), want[k]);
        }
        CHECK.due(name + " witness(behind)", x.witness(want.length), NONE);
    }

    private static void least(String name, CoverRounds x, int... want) {
        for (int i = 0; i < want.length; i++) {
            CHECK.due(name + " least(" + i + ")", x.least(i), want[i]);
        }
        CHECK.due(name + " least(behind)", x.least(want.length), NONE);
    }

    private static void targetAtFirst() {
        CHECK.says("Terms: the target is a marking (0 everywhere at first)");
        CoverRounds x = new CoverRounds();
        row("no places", x);
        for (int p = 0; p < 5; p++) {
            x.place(0);
            row("places with 0", x);
        }
        CoverRounds y = Nets.places(1);
        y.target(0, 1);
        y.place(0);
        row("a place more", y);
    }

    private static void perhapsNoFiring() {
        CHECK.says("Terms: some row of firings, perhaps none");
        CoverRounds x = Nets.places(20, 20);
        Nets.transition(x, 0, 1, 0);
        Nets.target(x, 20, 20);
        row("20 of 20", x);
        least("20 of 20", x, 1);
    }

    private static void asManyOrMoreAtEachPlace() {
        CHECK.says("Terms: covers another one when it has as many tokens or more at each place");
        for (int p = 0; p < 5; p++) {
            CoverRounds x = Nets.places(7, 7, 7, 7, 7);
            Nets.target(x, 7, 7, 7, 7, 7);
            row("as many", x);
            x.target(p, 6);
            row("more at " + p, x);
            x.target(p, 8);
            CHECK.due("less at " + p + " rounds()", x.rounds(), 0);
        }
    }

    /** What a transition takes is needed though the target does not want it, and beside what the target wants. */
    private static void firesIntoTheRoundBefore() {
        CHECK.says("Terms: those at which some transition can fire to one of U(i)");
        needs("takes 5, wanted 0", 5, 5, 0, 0);
        needs("takes 5, wanted 3", 8, 5, 0, 3);
        needs("takes 5 and gives 1, wanted 3", 7, 5, 1, 3);
        needs("takes 5 and gives 5, wanted 3", 5, 5, 5, 3);
        needs("takes 1 and gives 5, wanted 5", 1, 1, 5, 5);
        needs("takes 1 and gives 5, wanted 6", 2, 1, 5, 6);
        needs("takes 5, wanted 15", 20, 5, 0, 15);
    }

    /**
     * The transition can fire once, and gives the one token that place 1 needs; place 0 must have as many as
     * told, and no less.
     */
    private static void needs(String name, int tokens, int takes, int gives, int wanted) {
        for (int less = 0; less <= 1; less++) {
            CoverRounds x = Nets.places(tokens - less, 0, 1);
            Nets.transition(x, 0, takes, gives, 1, 0, 1, 2, 1, 0);
            Nets.target(x, wanted, 1, 0);
            CHECK.due(name + " rounds() with " + less + " less", x.rounds(), 1 - less);
            CHECK.due(name + " steps() with " + less + " less", x.steps(), less == 0 ? 1 : NONE);
        }
    }

    private static void thoseOfTheRoundBefore() {
        CHECK.says("Terms: U(i + 1) are those of U(i), too");
        CoverRounds x = Nets.places(0, 0, 0);
        Nets.transition(x, 0, 1, 0, 1, 0, 1);
        Nets.target(x, 0, 2, 1);
        CHECK.due("rounds()", x.rounds(), 0);
        least("0 2 1; 1 1 1; 2 0 1", x, 1, 2, 3, 3);
    }

    /** Transitions 0 and 1 lead back to the same marking, 2 to a greater one, 3 to a lesser one a round later. */
    private static void leastCoverNoOther() {
        CHECK.says("Terms: the least of U(i) are those of it that cover no other one of it");
        CoverRounds x = Nets.places(0, 0, 0);
        Nets.transition(x, 0, 2, 0, 1, 0, 1);
        Nets.transition(x, 0, 2, 0, 1, 0, 1);
        Nets.transition(x, 0, 3, 0, 1, 0, 1);
        Nets.transition(x, 0, 1, 2);
        Nets.target(x, 0, 1, 1);
        CHECK.due("rounds()", x.rounds(), 0);
        least("0 1 1; 2 0 1; 1 0 1 drops it", x, 1, 2, 2, 2);
    }

    private static void coverableAtSixty() {
        CHECK.says("Terms: they end as coverable when the first marking is in U(i), for i = 60, too");
        CoverRounds x = Nets.fiveForOne(0, 0);
        Nets.target(x, 0, 10);
        int[] want = new int[60];
        for (int k = 50; k < 60; k++) {
            want[k] = 1;
        }
        row("60 firings", x, want);
        CHECK.due("least(60)", x.least(60), 1);
        CHECK.due("least(61)", x.least(61), NONE);
    }

    private static void coverableBeforeTooLarge() {
        CHECK.says("Terms: as coverable when the first marking is in U(i); else as too large");
        CoverRounds x = Nets.sources(0, 5, 20);
        Nets.target(x, 10, 20, 20);
        CHECK.due("201 least ones rounds()", x.rounds(), 1);
        CHECK.due("201 least ones steps()", x.steps(), 25);
        CHECK.due("201 least ones least(25)", x.least(25), 201);
        CHECK.due("201 least ones least(26)", x.least(26), NONE);
        CHECK.due("201 least ones witness(9)", x.witness(9), 0);
        CHECK.due("201 least ones witness(10)", x.witness(10), 1);
        CHECK.due("201 least ones witness(24)", x.witness(24), 1);
    }

    private static void tooLargeAboveTwoHundred() {
        CHECK.says("Terms: as too large when U(i) has more than 200 least ones");
        CoverRounds x = Nets.sources(0, 0, 0);
        Nets.target(x, 10, 20, 20);
        CHECK.due("201 rounds()", x.rounds(), NONE);
        CHECK.due("201 least(24)", x.least(24), 200);
        CHECK.due("201 least(25)", x.least(25), 201);
        CHECK.due("201 least(26)", x.least(26), NONE);
    }

    /** Of three sources, U(i) has as many least ones as there are ways to take i away from the target. */
    private static void twoHundredGoOn() {
        CHECK.says("Terms: 200 least ones are not more than 200");
        CoverRounds x = Nets.sources(0, 0, 0);
        Nets.target(x, 14, 14, 19);
        CHECK.due("200 rounds()", x.rounds(), 1);
        CHECK.due("200 steps()", x.steps(), 47);
        CHECK.due("200 least(23)", x.least(23), 200);
        CHECK.due("200 least(24)", x.least(24), 200);
        CHECK.due("200 least(47)", x.least(47), 1);
        for (int k = 0; k < 47; k++) {
            CHECK.due("200 witness(" + k + ")", x.witness(k), k < 14 ? 0 : k < 28 ? 1 : 2);
        }
        x.place(0);
        x.target(3, 1);
        CHECK.due("200 and one that never comes rounds()", x.rounds(), 0);
        CHECK.due("200 and one that never comes least(24)", x.least(24), 200);
        CHECK.due("200 and one that never comes least(48)", x.least(48), 1);
        CHECK.due("200 and one that never comes least(49)", x.least(49), NONE);
    }

    private static void notCoverableAboveZeroAlone() {
        CHECK.says("Terms: as not coverable when i is above 0");
        CoverRounds x = Nets.places(0);
        x.target(0, 1);
        CHECK.due("no transitions rounds()", x.rounds(), 0);
        least("no transitions", x, 1, 1);
        x.transition();
        CHECK.due("a transition without arcs rounds()", x.rounds(), 0);
        least("a transition without arcs", x, 1, 1);
    }

    private static void sameAndNotJustAsMany() {
        CHECK.says("Terms: and U(i) is U(i - 1), not just as many least ones");
        CoverRounds x = Nets.sources(0, 0);
        Nets.target(x, 20, 0);
        row("one least one in each round", x, new int[20]);
        least("one least one in each round", x, 1, 1, 1, 1, 1, 1, 1, 1, 1, 1, 1, 1, 1, 1, 1, 1, 1, 1, 1, 1, 1);
    }

    /** Place 2 never gets a token; the rounds reach 0 and 0 at place 0 and 1 in round 59, and the next is the same. */
    private static void notCoverableBeforeSixty() {
        CHECK.says("Terms: as not coverable when U(i) is U(i - 1); else as too large when i is 60");
        CoverRounds x = Nets.fiveForOne(0, 0, 0);
        Nets.target(x, 5, 9, 1);
        CHECK.due("same at 60 rounds()", x.rounds(), 0);
        CHECK.due("same at 60 least(60)", x.least(60), 1);
        CHECK.due("same at 60 least(61)", x.least(61), NONE);
    }

    /** Each wants one firing more: the first marking would be in U(61), or U(61) would be the same as U(60). */
    private static void tooLargeAtSixty() {
        CHECK.says("Terms: as too large when i is 60");
        CoverRounds x = Nets.fiveForOne(0, 0);
        Nets.target(x, 1, 10);
        CHECK.due("61 firings rounds()", x.rounds(), NONE);
        CHECK.yes("61 firings least(60)", x.least(60) > 0 && x.least(60) <= 200);
        CHECK.due("61 firings least(61)", x.least(61), NONE);
        CoverRounds y = Nets.fiveForOne(0, 0, 0);
        Nets.target(y, 0, 10, 1);
        CHECK.due("new at 60 rounds()", y.rounds(), NONE);
        CHECK.due("new at 60 least(60)", y.least(60), 1);
        CHECK.due("new at 60 least(61)", y.least(61), NONE);
    }

    /** Each firing back needs 5 tokens more of place 0 and 4, while 1 and 2 never get less: 320 behind 60 rounds. */
    private static void greatestNumbers() {
        CHECK.says("Terms: 60 rounds that take 5 each from places where 20 are wanted");
        CoverRounds x = Nets.places(20, 0, 0, 20, 20);
        Nets.transition(x, 0, 5, 0, 1, 0, 4, 2, 3, 0, 4, 5, 0);
        Nets.transition(x, 0, 5, 0, 1, 5, 0, 2, 0, 4, 4, 5, 0);
        Nets.target(x, 20, 0, 20, 20, 20);
        CHECK.due("rounds()", x.rounds(), NONE);
        PlainNet plain = new PlainNet();
        plain.tell(new int[] {20, 0, 0, 20, 20}, new int[] {20, 0, 20, 20, 20});
        plain.addTransition(new int[] {5, 0, 3, 0, 5}, new int[] {0, 4, 0, 0, 0});
        plain.addTransition(new int[] {5, 5, 0, 0, 5}, new int[] {0, 0, 4, 0, 0});
        plain.goRounds();
        for (int i = 0; i <= 60; i++) {
            CHECK.due("least(" + i + ")", x.least(i), i < plain.rounds.size() ? plain.rounds.get(i).size() : NONE);
        }
        List<int[]> last = plain.rounds.get(plain.rounds.size() - 1);
        CHECK.yes("320 at place 0 and 4", last.stream().anyMatch(one -> one[0] == 320 && one[4] == 320));
    }

    private static void fullNet() {
        CHECK.says("Terms: 5 places, 6 transitions, all with the greatest numbers");
        CoverRounds x = Nets.places(20, 20, 20, 20, 20);
        for (int t = 0; t < 6; t++) {
            Nets.transition(x, 0, 5, 5, 1, 5, 5, 2, 5, 5, 3, 5, 5, 4, 5, 5);
        }
        Nets.target(x, 20, 20, 20, 20, 20);
        row("20 of 20 everywhere", x);
        CoverRounds y = Nets.sources(0, 0, 0, 0, 0);
        Nets.target(y, 20, 20, 20, 20, 20);
        CHECK.due("five sources rounds()", y.rounds(), NONE);
        least("five sources", y, 1, 5, 15, 35, 70, 126, 210);
    }

    private static void fromTheFirstMarking() {
        CHECK.says("Terms: rounds end by the first marking, not by that of now");
        CoverRounds x = Nets.places(1, 0);
        Nets.transition(x, 0, 1, 0, 1, 0, 1);
        x.target(1, 1);
        x.fire(0);
        row("behind fire(0)", x, 0);
        Nets.target(x, 1, 0);
        row("what fire(0) took", x);
    }

    private static void stepsWithoutRounds() {
        CHECK.says("Promise 7: NONE when there was none");
        CoverRounds x = Nets.pump();
        CHECK.due("steps()", x.steps(), NONE);
        x.grow();
        x.fire(0);
        CHECK.due("steps() behind grow() and fire()", x.steps(), NONE);
        CHECK.due("witness(0)", x.witness(0), NONE);
        CHECK.due("least(0)", x.least(0), NONE);
    }

    private static CoverRounds coverableOnce() {
        CoverRounds x = Nets.pump();
        Nets.target(x, 0, 1, 1);
        row("pump", x, 0, 1, 0);
        return x;
    }

    private static void stepsWhenNotCoverable() {
        CHECK.says("Promise 7: NONE when that was not as coverable, but as not coverable");
        CoverRounds x = coverableOnce();
        x.target(0, 1);
        CHECK.due("rounds()", x.rounds(), 0);
        CHECK.due("steps()", x.steps(), NONE);
    }

    private static void stepsWhenTooLarge() {
        CHECK.says("Promise 7: NONE when that was not as coverable, but as too large");
        CoverRounds x = Nets.fiveForOne(0, 0);
        Nets.target(x, 1, 1);
        row("fewer firings", x, 0, 0, 0, 0, 0, 0, 1);
        Nets.target(x, 20, 20);
        CHECK.due("rounds() at 60", x.rounds(), NONE);
        CHECK.due("steps() at 60", x.steps(), NONE);
        CoverRounds y = Nets.sources(0, 0, 0);
        Nets.target(y, 1, 0, 0);
        row("one source", y, 0);
        Nets.target(y, 20, 20, 20);
        CHECK.due("rounds() with more than 200", y.rounds(), NONE);
        CHECK.due("steps() with more than 200", y.steps(), NONE);
    }

    private static void witnessOfNoSuchFiring() {
        CHECK.says("Promise 8: NONE when there is none such, below 0 or behind the last one");
        CoverRounds x = coverableOnce();
        CHECK.due("witness(3)", x.witness(3), NONE);
        CHECK.due("witness(4)", x.witness(4), NONE);
        CHECK.due("witness(59)", x.witness(59), NONE);
        CHECK.due("witness(60)", x.witness(60), NONE);
        for (int never : Answers.NEVER) {
            CHECK.due("witness(" + never + ")", x.witness(never), NONE);
        }
    }

    private static void witnessOfNoRow() {
        CHECK.says("Promise 8: NONE when there is none such, for no row was found");
        CoverRounds x = coverableOnce();
        x.target(0, 1);
        CHECK.due("rounds()", x.rounds(), 0);
        CoverRounds y = Nets.fiveForOne(0, 0);
        Nets.target(y, 0, 10);
        y.rounds();
        CHECK.due("witness(59) of 60", y.witness(59), 1);
        Nets.target(y, 1, 10);
        CHECK.due("rounds()", y.rounds(), NONE);
        for (int k = 0; k < 60; k++) {
            CHECK.due("not coverable witness(" + k + ")", x.witness(k), NONE);
            CHECK.due("too large witness(" + k + ")", y.witness(k), NONE);
        }
    }

    private static void witnessOfAShorterRow() {
        CHECK.says("Promise 8: NONE when there is none such, for the row before was longer");
        CoverRounds x = coverableOnce();
        Nets.target(x, 0, 1, 0);
        row("one firing", x, 0);
        CHECK.due("witness(2)", x.witness(2), NONE);
        Nets.target(x, 0, 0, 0);
        row("no firing", x);
        CHECK.due("witness(1)", x.witness(1), NONE);
    }

    /** All rows have two firings; the first number that is another one decides, though the next be greater. */
    private static void witnessByTheNumbers() {
        CHECK.says("Promise 8: the first row (by the numbers of its transitions)");
        CoverRounds x = Nets.places(1, 0, 0, 0);
        Nets.transition(x, 2, 1, 0, 3, 0, 1);
        Nets.transition(x, 0, 1, 0, 1, 0, 1);
        Nets.transition(x, 0, 1, 0, 2, 0, 1);
        Nets.transition(x, 0, 1, 0, 1, 0, 1);
        Nets.transition(x, 1, 1, 0, 3, 0, 1);
        Nets.transition(x, 1, 1, 0, 3, 0, 5);
        Nets.target(x, 0, 0, 0, 1);
        row("1 4 before 2 0", x, 1, 4);
        CoverRounds y = Nets.sources(0, 0);
        Nets.target(y, 2, 2);
        row("in any order", y, 0, 0, 1, 1);
        CoverRounds z = Nets.places(0);
        for (int t = 0; t < 6; t++) {
            Nets.transition(z, 0, 0, t);
        }
        z.target(0, 5);
        row("the last transition alone", z, 5);
        z.target(0, 6);
        row("1 and then 5", z, 1, 5);
    }

    private static void witnessOfTheShortestRow() {
        CHECK.says("Promise 8: of so many firings, though a longer row has lesser numbers");
        CoverRounds x = Nets.places(0);
        Nets.transition(x, 0, 0, 1);
        Nets.transition(x, 0, 0, 3);
        x.target(0, 3);
        row("1 before 0 0 0", x, 1);
        x.target(0, 5);
        row("two firings", x, 1, 1);
        x.target(0, 4);
        row("0 and then 1", x, 0, 1);
    }

    private static void leastOfTooLargeRounds() {
        CHECK.says("Promise 9: also of the last one of rounds that were too large");
        CoverRounds x = Nets.sources(0, 0, 0, 0);
        Nets.target(x, 20, 20, 20, 20);
        CHECK.due("four sources rounds()", x.rounds(), NONE);
        least("four sources", x, 1, 4, 10, 20, 35, 56, 84, 120, 165, 220);
        CoverRounds y = Nets.fiveForOne(0, 0, 0);
        Nets.target(y, 0, 10, 1);
        CHECK.due("60 rounds()", y.rounds(), NONE);
        CHECK.due("60 least(60)", y.least(60), 1);
        CHECK.due("60 least(61)", y.least(61), NONE);
    }

    private static void leastOfNoSuchRound() {
        CHECK.says("Promise 9: NONE when it went no such round");
        CoverRounds x = Nets.fiveForOne(0, 0);
        Nets.target(x, 0, 10);
        CHECK.due("least(0) before rounds()", x.least(0), NONE);
        x.rounds();
        CHECK.due("least(0)", x.least(0), 1);
        for (int i = 61; i < 70; i++) {
            CHECK.due("least(" + i + ")", x.least(i), NONE);
        }
        for (int never : Answers.NEVER) {
            CHECK.due("least(" + never + ")", x.least(never), NONE);
        }
    }

    private static void leastOfFewerRounds() {
        CHECK.says("Promise 9: NONE when it went no such round, though the rounds before did");
        CoverRounds x = Nets.sources(0, 0);
        Nets.target(x, 2, 2);
        x.rounds();
        least("four rounds", x, 1, 2, 3, 2, 1);
        Nets.target(x, 1, 0);
        x.rounds();
        least("one round", x, 1, 1);
        Nets.target(x, 0, 0);
        x.rounds();
        least("none", x, 1);
        for (int i = 2; i <= 61; i++) {
            CHECK.due("none least(" + i + ")", x.least(i), NONE);
        }
    }

    private static void staysUntilTheNext() {
        CHECK.says("Terms: what rounds() found stays until the next of these");
        CoverRounds x = coverableOnce();
        Answers before = Answers.ofRounds(x);
        x.target(2, 20);
        stays("target()", x, before);
        x.fire(0);
        stays("fire()", x, before);
        x.arc(0, 0, 5, 0);
        stays("arc()", x, before);
        x.place(3);
        stays("place()", x, before);
        x.transition();
        stays("transition()", x, before);
        x.grow();
        stays("grow()", x, before);
        Nets.target(x, 0, 0, 0, 4);
        stays("target() of the place that came", x, before);
        CHECK.due("next rounds()", x.rounds(), 0);
        CHECK.due("next steps()", x.steps(), NONE);
        CHECK.due("next witness(0)", x.witness(0), NONE);
        least("next", x, 1, 1);
    }

    private static void stays(String behind, CoverRounds x, Answers before) {
        CHECK.due("others behind " + behind, Answers.ofRounds(x).otherThan(before), 0);
    }

    private static void staysBehindRefused() {
        CHECK.says("Terms: a call that is refused changes nothing of what rounds() found");
        CoverRounds x = coverableOnce();
        Answers before = Answers.ofRounds(x);
        x.place(21);
        x.arc(0, 0, 6, 6);
        x.target(3, 0);
        x.target(0, 21);
        x.fire(1);
        x.witness(-1);
        x.least(61);
        stays("refused ones", x, before);
        row("pump once more", x, 0, 1, 0);
    }

    /** The rows inside are used again: nothing of one call may be left to the next. */
    private static void roundsOnAndOn() {
        CHECK.says("What it is: an object is used for at most 512 calls");
        CoverRounds x = Nets.sources(0, 0, 0);
        for (int k = 0; k < 60; k++) {
            Nets.target(x, 10, 20, 20);
            CHECK.due("rounds() with 201", x.rounds(), NONE);
            Nets.target(x, 1, 0, 1);
            CHECK.due("rounds() to 1 0 1", x.rounds(), 1);
        }
        least("1 0 1", x, 1, 2, 1);
        row("1 0 1", x, 0, 2);
    }
}
