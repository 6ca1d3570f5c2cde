/** The edges of the net as it is told and of the marking of now: 'Terms', promises 1 to 5, 16 and 17. */
public final class NetEdgesTest {
    private static final int NONE = CoverRounds.NONE;
    private static final Check CHECK = new Check("NetEdgesTest");

    public static void main(String[] args) {
        fivePlacesAtMost();
        tokensAtFirst();
        sixTransitionsAtMost();
        takesAndGives();
        nothingMovedAtFirst();
        asManyAsItTakes();
        takesBeforeItGives();
        newObject();
        placeWhenThereAreFive();
        placeOfNoSuchTokens();
        transitionWhenThereAreSix();
        arcOfNoSuchTransition();
        arcOfNoSuchPlace();
        arcOfNoSuchTakes();
        arcOfNoSuchGives();
        targetOfNoSuchPlace();
        targetOfNoSuchTokens();
        fireFromTheFirstMarking();
        fireAgainBehindPlace();
        fireAgainBehindTransition();
        fireAgainBehindArc();
        fireGoesOnBehindRefused();
        fireGoesOnBehindOthers();
        fireWhenItCannot();
        fireOfNoSuchTransition();
        tokensOfNoSuchPlace();
        refusedChangesNothing();
        refusedOnAnEmptyNet();
        wholeLifeOfFirings();
        CHECK.finish();
    }

    private static void fivePlacesAtMost() {
        CHECK.says("Terms: places are numbered from 0 on, 5 at most");
        CoverRounds x = new CoverRounds();
        for (int p = 0; p < 5; p++) {
            CHECK.due("place " + p, x.place(p), p);
            CHECK.due("tokens(" + p + ")", x.tokens(p), p);
            CHECK.due("tokens(" + (p + 1) + ") before its place", x.tokens(p + 1), NONE);
        }
        CHECK.due("sixth place(5)", x.place(5), NONE);
        CHECK.due("tokens(5) behind it", x.tokens(5), NONE);
    }

    private static void tokensAtFirst() {
        CHECK.says("Terms: each with tokens, 0 .. 20, at first; the first marking is as told");
        for (int tokens = 0; tokens <= 20; tokens++) {
            CoverRounds x = new CoverRounds();
            CHECK.due("place(" + tokens + ")", x.place(tokens), 0);
            CHECK.due("tokens(0) of " + tokens, x.tokens(0), tokens);
        }
        CoverRounds full = Nets.places(20, 20, 20, 20, 20);
        for (int p = 0; p < 5; p++) {
            CHECK.due("tokens(" + p + ") of 20 each", full.tokens(p), 20);
        }
    }

    private static void sixTransitionsAtMost() {
        CHECK.says("Terms: transitions are numbered from 0 on, 6 at most");
        CoverRounds x = Nets.places(0);
        for (int t = 0; t < 6; t++) {
            CHECK.no("fire(" + t + ") before its transition()", x.fire(t));
            CHECK.due("transition " + t, x.transition(), t);
            CHECK.yes("arc() of transition " + t, x.arc(t, 0, 0, 1));
            CHECK.yes("fire(" + t + ")", x.fire(t));
        }
        CHECK.due("seventh transition()", x.transition(), NONE);
        CHECK.no("fire(6)", x.fire(6));
        CHECK.no("arc(6, 0, 0, 1)", x.arc(6, 0, 0, 1));
    }

    /** Each pair of a transition and a place is held apart: the numbers are told first and looked at behind all. */
    private static void takesAndGives() {
        CHECK.says("Terms: each takes 0 .. 5 tokens of each place, and gives 0 .. 5");
        CoverRounds x = Nets.places(20, 20, 20, 20, 20);
        for (int t = 0; t < 6; t++) {
            x.transition();
            for (int p = 0; p < 5; p++) {
                CHECK.yes("arc(" + t + ", " + p + ", ..)", x.arc(t, p, (t + p) % 6, (t * p) % 6));
            }
        }
        for (int t = 0; t < 6; t++) {
            // the same arc once more, to go back to the first marking
            x.arc(5, 4, 3, 2);
            CHECK.yes("fire(" + t + ")", x.fire(t));
            for (int p = 0; p < 5; p++) {
                CHECK.due("tokens(" + p + ") behind fire(" + t + ")", x.tokens(p), 20 - (t + p) % 6 + (t * p) % 6);
            }
        }
    }

    private static void nothingMovedAtFirst() {
        CHECK.says("Terms: (0 at first)");
        CoverRounds x = Nets.places(0, 3);
        x.transition();
        CHECK.yes("fire(0) with 0 tokens", x.fire(0));
        CHECK.due("tokens(0)", x.tokens(0), 0);
        CHECK.due("tokens(1)", x.tokens(1), 3);
        x.place(1);
        CHECK.yes("fire(0) with a place more", x.fire(0));
        CHECK.due("tokens(2)", x.tokens(2), 1);
    }

    /** One place has just what is taken, or one less, while all others have it: each place counts. */
    private static void asManyAsItTakes() {
        CHECK.says("Terms: can fire at a marking when each place has as many as it takes");
        for (int scarce = 0; scarce < 5; scarce++) {
            for (int takes = 1; takes <= 5; takes++) {
                CHECK.yes("fire(0) with " + takes, takingFromAll(scarce, takes, takes).fire(0));
                CHECK.no("fire(0) with one less than " + takes, takingFromAll(scarce, takes - 1, takes).fire(0));
            }
        }
    }

    private static CoverRounds takingFromAll(int scarce, int tokens, int takes) {
        CoverRounds x = new CoverRounds();
        for (int p = 0; p < 5; p++) {
            x.place(p == scarce ? tokens : takes + 1);
        }
        x.transition();
        for (int p = 0; p < 5; p++) {
            x.arc(0, p, takes, 0);
        }
        return x;
    }

    private static void takesBeforeItGives() {
        CHECK.says("Terms: it takes them, and then gives");
        CoverRounds x = Nets.places(2);
        Nets.transition(x, 0, 3, 5);
        CHECK.no("fire(0) that takes 3 of 2 and gives 5", x.fire(0));
        CHECK.due("tokens(0)", x.tokens(0), 2);
        x.arc(0, 0, 2, 2);
        CHECK.yes("fire(0) that takes 2 of 2 and gives 2", x.fire(0));
        CHECK.due("tokens(0)", x.tokens(0), 2);
        x.arc(0, 0, 2, 0);
        CHECK.yes("fire(0) that takes 2 of 2", x.fire(0));
        CHECK.due("tokens(0)", x.tokens(0), 0);
    }

    private static void newObject() {
        CHECK.says("Promise 1: no places, no transitions; nothing was found");
        CoverRounds x = new CoverRounds();
        askOfNothing(x, 0);
        askOfNothing(x, 4);
        askOfNothing(x, 5);
        askOfNothing(x, 59);
        askOfNothing(x, 60);
        for (int never : Answers.NEVER) {
            askOfNothing(x, never);
        }
        CHECK.due("first place(0)", x.place(0), 0);
        CHECK.due("first transition()", x.transition(), 0);
    }

    private static void askOfNothing(CoverRounds x, int k) {
        CHECK.due("steps()", x.steps(), NONE);
        CHECK.due("limits()", x.limits(), NONE);
        CHECK.no("covers()", x.covers());
        CHECK.due("witness(" + k + ")", x.witness(k), NONE);
        CHECK.due("least(" + k + ")", x.least(k), NONE);
        CHECK.due("most(" + k + ")", x.most(k), NONE);
        CHECK.due("limit(" + k + ", 0)", x.limit(k, 0), NONE);
        CHECK.due("limit(0, " + k + ")", x.limit(0, k), NONE);
        CHECK.no("live(" + k + ")", x.live(k));
        CHECK.due("tokens(" + k + ")", x.tokens(k), NONE);
        CHECK.no("fire(" + k + ")", x.fire(k));
        CHECK.no("target(" + k + ", 0)", x.target(k, 0));
        CHECK.no("arc(" + k + ", 0, 0, 0)", x.arc(k, 0, 0, 0));
        CHECK.no("arc(0, " + k + ", 0, 0)", x.arc(0, k, 0, 0));
    }

    private static void placeWhenThereAreFive() {
        CHECK.says("Promise 2: NONE when there are 5");
        CoverRounds x = Nets.places(1, 2, 3, 4);
        CHECK.due("fifth place(20)", x.place(20), 4);
        for (int tokens = 0; tokens <= 20; tokens++) {
            CHECK.due("sixth place(" + tokens + ")", x.place(tokens), NONE);
        }
        CHECK.due("tokens(4)", x.tokens(4), 20);
        CHECK.due("tokens(5)", x.tokens(5), NONE);
    }

    private static void placeOfNoSuchTokens() {
        CHECK.says("Promise 2: NONE when tokens are not such");
        CoverRounds x = new CoverRounds();
        for (int p = 0; p < 5; p++) {
            CHECK.due("place(-1)", x.place(-1), NONE);
            CHECK.due("place(21)", x.place(21), NONE);
            for (int never : Answers.NEVER) {
                CHECK.due("place(" + never + ")", x.place(never), NONE);
            }
            CHECK.due("tokens(" + p + ") behind refused ones", x.tokens(p), NONE);
            CHECK.due("place(20) behind refused ones", x.place(20), p);
        }
    }

    private static void transitionWhenThereAreSix() {
        CHECK.says("Promise 3: NONE when there are 6");
        CoverRounds x = new CoverRounds();
        for (int t = 0; t < 6; t++) {
            CHECK.due("transition()", x.transition(), t);
        }
        for (int k = 0; k < 10; k++) {
            CHECK.due("transition() when there are 6", x.transition(), NONE);
        }
        CHECK.yes("fire(5)", x.fire(5));
        CHECK.no("fire(6)", x.fire(6));
    }

    private static void arcOfNoSuchTransition() {
        CHECK.says("Promise 4: false when the transition is not such");
        CoverRounds x = Nets.places(0, 0, 0, 0, 0);
        CHECK.no("arc(0, 0, 0, 1) without a transition", x.arc(0, 0, 0, 1));
        for (int t = 0; t < 6; t++) {
            CHECK.no("arc() before its transition()", x.arc(t, 0, 0, 1));
            x.transition();
            CHECK.yes("arc() behind its transition()", x.arc(t, 0, 0, 1));
        }
        CHECK.no("arc(6, 0, 0, 1)", x.arc(6, 0, 0, 1));
        for (int never : Answers.NEVER) {
            CHECK.no("arc(" + never + ", 0, 0, 1)", x.arc(never, 0, 0, 1));
            CHECK.no("arc(" + never + ", 4, 0, 1)", x.arc(never, 4, 0, 1));
        }
    }

    private static void arcOfNoSuchPlace() {
        CHECK.says("Promise 4: false when the place is not such");
        CoverRounds x = new CoverRounds();
        x.transition();
        x.transition();
        for (int p = 0; p < 5; p++) {
            CHECK.no("arc() before its place()", x.arc(1, p, 0, 1));
            x.place(0);
            CHECK.yes("arc() behind its place()", x.arc(1, p, 0, 1));
        }
        CHECK.no("arc(0, 5, 0, 1)", x.arc(0, 5, 0, 1));
        for (int never : Answers.NEVER) {
            CHECK.no("arc(1, " + never + ", 0, 1)", x.arc(1, never, 0, 1));
        }
        CHECK.yes("fire(0)", x.fire(0));
        for (int p = 0; p < 5; p++) {
            CHECK.due("tokens(" + p + "), transition 0 moves nothing", x.tokens(p), 0);
        }
    }

    /** Right gives beside wrong takes are not kept, either. */
    private static void arcOfNoSuchTakes() {
        CHECK.says("Promise 4: takes 0 .. 5, false when these are not such");
        CoverRounds x = Nets.places(20);
        Nets.transition(x, 0, 2, 3);
        for (int takes = 0; takes <= 5; takes++) {
            CHECK.yes("arc(0, 0, " + takes + ", 3)", x.arc(0, 0, takes, 3));
            CHECK.no("arc(0, 0, 6, 5)", x.arc(0, 0, 6, 5));
            for (int never : Answers.NEVER) {
                CHECK.no("arc(0, 0, " + never + ", 5)", x.arc(0, 0, never, 5));
            }
            CHECK.yes("fire(0)", x.fire(0));
            CHECK.due("tokens(0) less " + takes, x.tokens(0), 23 - takes);
        }
    }

    private static void arcOfNoSuchGives() {
        CHECK.says("Promise 4: gives 0 .. 5, false when these are not such");
        CoverRounds x = Nets.places(20);
        Nets.transition(x, 0, 3, 2);
        for (int gives = 0; gives <= 5; gives++) {
            CHECK.yes("arc(0, 0, 3, " + gives + ")", x.arc(0, 0, 3, gives));
            CHECK.no("arc(0, 0, 5, 6)", x.arc(0, 0, 5, 6));
            for (int never : Answers.NEVER) {
                CHECK.no("arc(0, 0, 5, " + never + ")", x.arc(0, 0, 5, never));
            }
            CHECK.yes("fire(0)", x.fire(0));
            CHECK.due("tokens(0) and " + gives, x.tokens(0), 17 + gives);
        }
    }

    private static void targetOfNoSuchPlace() {
        CHECK.says("Promise 5: false when the place is not such");
        CoverRounds x = new CoverRounds();
        for (int p = 0; p < 5; p++) {
            CHECK.no("target() before its place()", x.target(p, 1));
            x.place(0);
            CHECK.yes("target() behind its place()", x.target(p, 0));
        }
        CHECK.no("target(5, 1)", x.target(5, 1));
        for (int never : Answers.NEVER) {
            CHECK.no("target(" + never + ", 1)", x.target(never, 1));
        }
        CHECK.due("rounds(), 0 is wanted everywhere", x.rounds(), 1);
    }

    private static void targetOfNoSuchTokens() {
        CHECK.says("Promise 5: the target's tokens at a place, 0 .. 20; false when these are not such");
        CoverRounds x = Nets.places(20, 0);
        for (int tokens = 0; tokens <= 20; tokens++) {
            CHECK.yes("target(1, " + tokens + ")", x.target(1, tokens));
            CHECK.due("rounds() to " + tokens + " of 0", x.rounds(), tokens == 0 ? 1 : 0);
            CHECK.yes("target(0, " + tokens + ")", x.target(0, tokens));
        }
        x.target(1, 0);
        CHECK.no("target(1, 21)", x.target(1, 21));
        for (int never : Answers.NEVER) {
            CHECK.no("target(1, " + never + ")", x.target(1, never));
        }
        CHECK.due("rounds() to 20 of 20 and 0 of 0", x.rounds(), 1);
        CHECK.due("steps()", x.steps(), 0);
    }

    /** One token, which transition 0 takes: behind a firing place 0 is empty until the marking is the first again. */
    private static CoverRounds fired() {
        CoverRounds x = Nets.places(1, 4);
        Nets.transition(x, 0, 1, 0);
        CHECK.yes("fire(0) at first", x.fire(0));
        CHECK.due("tokens(0) behind it", x.tokens(0), 0);
        return x;
    }

    private static void isFirstAgain(String behind, CoverRounds x) {
        CHECK.due("tokens(0) behind " + behind, x.tokens(0), 1);
        CHECK.due("tokens(1) behind " + behind, x.tokens(1), 4);
        CHECK.yes("fire(0) behind " + behind, x.fire(0));
    }

    private static void fireFromTheFirstMarking() {
        CHECK.says("Promise 16: the marking of now, which is the first one at first");
        CoverRounds x = fired();
        CHECK.no("fire(0) again", x.fire(0));
    }

    private static void fireAgainBehindPlace() {
        CHECK.says("Promise 16: and again behind each place()");
        CoverRounds x = fired();
        x.place(7);
        CHECK.due("tokens(2)", x.tokens(2), 7);
        isFirstAgain("place(7)", x);
        x.place(0);
        isFirstAgain("place(0)", x);
    }

    private static void fireAgainBehindTransition() {
        CHECK.says("Promise 16: and again behind each transition()");
        CoverRounds x = fired();
        for (int t = 1; t < 6; t++) {
            x.transition();
            isFirstAgain("transition()", x);
        }
    }

    private static void fireAgainBehindArc() {
        CHECK.says("Promise 16: and again behind each arc()");
        CoverRounds x = fired();
        x.arc(0, 1, 0, 1);
        isFirstAgain("another arc()", x);
        x.arc(0, 1, 0, 1);
        isFirstAgain("the same arc()", x);
    }

    private static void fireGoesOnBehindRefused() {
        CHECK.says("Promise 16: that was not refused");
        CoverRounds x = fired();
        x.place(21);
        x.place(-1);
        x.arc(0, 0, 6, 0);
        x.arc(0, 0, 0, 6);
        x.arc(1, 0, 0, 0);
        x.arc(0, 2, 0, 0);
        CHECK.due("tokens(0) behind refused ones", x.tokens(0), 0);
        CHECK.no("fire(0) behind refused ones", x.fire(0));
        CoverRounds full = Nets.places(1, 0, 0, 0, 0);
        for (int t = 0; t < 6; t++) {
            Nets.transition(full, 0, 1, 0);
        }
        CHECK.yes("fire(5)", full.fire(5));
        CHECK.due("sixth place(0)", full.place(0), NONE);
        CHECK.due("seventh transition()", full.transition(), NONE);
        CHECK.due("tokens(0) behind refused ones, full", full.tokens(0), 0);
        CHECK.no("fire(5) behind refused ones, full", full.fire(5));
    }

    private static void fireGoesOnBehindOthers() {
        CHECK.says("Promise 16: behind place(), transition() and arc() alone");
        CoverRounds x = fired();
        Answers before = Answers.ofNow(x);
        x.target(0, 1);
        staysNow("target()", x, before);
        x.rounds();
        staysNow("rounds()", x, before);
        x.grow();
        staysNow("grow()", x, before);
        x.covers();
        Answers.of(x);
        staysNow("what only asks", x, before);
    }

    private static void staysNow(String behind, CoverRounds x, Answers before) {
        CHECK.due("others at the marking of now behind " + behind, Answers.ofNow(x).otherThan(before), 0);
    }

    private static void fireWhenItCannot() {
        CHECK.says("Promise 16: false when it can't");
        CoverRounds x = Nets.places(5, 1, 0);
        Nets.transition(x, 0, 2, 0, 1, 1, 1, 2, 0, 3);
        CHECK.yes("fire(0)", x.fire(0));
        CHECK.yes("fire(0) with 3", x.fire(0));
        Answers before = Answers.ofNow(x);
        for (int k = 0; k < 3; k++) {
            CHECK.no("fire(0) with 1 of 2", x.fire(0));
        }
        staysNow("what can't fire", x, before);
        CHECK.due("tokens(0)", x.tokens(0), 1);
        CHECK.due("tokens(1)", x.tokens(1), 1);
        CHECK.due("tokens(2)", x.tokens(2), 6);
    }

    private static void fireOfNoSuchTransition() {
        CHECK.says("Promise 16: false when there is none such");
        CoverRounds x = Nets.places(3);
        for (int t = 0; t <= 6; t++) {
            CHECK.no("fire(" + t + ") when there are " + t, x.fire(t));
            for (int never : Answers.NEVER) {
                CHECK.no("fire(" + never + ")", x.fire(never));
            }
            x.transition();
        }
    }

    private static void tokensOfNoSuchPlace() {
        CHECK.says("Promise 17: NONE when there is no such place");
        CoverRounds x = new CoverRounds();
        for (int p = 0; p <= 5; p++) {
            CHECK.due("tokens(" + p + ") when there are " + p, x.tokens(p), NONE);
            for (int never : Answers.NEVER) {
                CHECK.due("tokens(" + never + ")", x.tokens(never), NONE);
            }
            x.place(2);
        }
    }

    private static void refusedChangesNothing() {
        CHECK.says("Terms: a call that is refused changes nothing");
        CoverRounds x = Nets.pump();
        Nets.target(x, 0, 1, 1);
        x.rounds();
        x.grow();
        x.fire(0);
        Answers before = Answers.of(x);
        boolean covered = x.covers();
        refuse(x);
        CHECK.due("others among all answers", Answers.of(x).otherThan(before), 0);
        CHECK.yes("covers() as before", x.covers() == covered);
        CHECK.due("rounds() once more", x.rounds(), 1);
        CHECK.due("grow() once more", x.grow(), 5);
        CHECK.due("others among all answers, once more", Answers.of(x).otherThan(before), 0);
        CHECK.due("next place(0)", x.place(0), 3);
        CHECK.due("next transition()", x.transition(), 2);
    }

    private static void refuse(CoverRounds x) {
        int[] tooMany = {-1, 21, Integer.MIN_VALUE, Integer.MAX_VALUE};
        for (int tokens : tooMany) {
            CHECK.due("place(" + tokens + ")", x.place(tokens), NONE);
            CHECK.no("target(0, " + tokens + ")", x.target(0, tokens));
            CHECK.no("arc(0, 0, " + tokens + ", 0)", x.arc(0, 0, tokens, 0));
            CHECK.no("arc(0, 0, 0, " + tokens + ")", x.arc(0, 0, 0, tokens));
        }
        int[] nowhere = {-1, 3, Integer.MIN_VALUE, Integer.MAX_VALUE};
        for (int number : nowhere) {
            CHECK.no("target(" + number + ", 9)", x.target(number, 9));
            CHECK.no("arc(" + number + ", 0, 0, 5)", x.arc(number, 0, 0, 5));
            CHECK.no("arc(0, " + number + ", 0, 5)", x.arc(0, number, 0, 5));
            CHECK.no("fire(" + number + ")", x.fire(number));
        }
        CHECK.no("arc(2, 0, 0, 5)", x.arc(2, 0, 0, 5));
        CHECK.no("fire(2)", x.fire(2));
        CHECK.no("fire(0) that can't", x.fire(0));
    }

    /** What is refused before there are places must not be there when they come. */
    private static void refusedOnAnEmptyNet() {
        CHECK.says("Terms: a call that is refused changes nothing, nor what comes later");
        CoverRounds x = new CoverRounds();
        for (int p = 0; p < 5; p++) {
            CHECK.no("target(" + p + ", 5)", x.target(p, 5));
            for (int t = 0; t < 6; t++) {
                CHECK.no("arc(" + t + ", " + p + ", 1, 5)", x.arc(t, p, 1, 5));
            }
        }
        Nets.placesOn(x, 0, 0, 0, 0, 0);
        for (int t = 0; t < 6; t++) {
            x.transition();
            CHECK.yes("fire(" + t + ") takes nothing", x.fire(t));
            CHECK.due("tokens(0)", x.tokens(0), 0);
        }
        CHECK.due("rounds() to 0 everywhere", x.rounds(), 1);
        CHECK.due("steps()", x.steps(), 0);
    }

    private static void wholeLifeOfFirings() {
        CHECK.says("What it is: an object is used for at most 512 calls");
        CoverRounds x = Nets.places(20);
        Nets.transition(x, 0, 0, 5);
        for (int k = 0; k < 508; k++) {
            CHECK.yes("fire(0)", x.fire(0));
        }
        CHECK.due("tokens(0) as the 512th call", x.tokens(0), 20 + 508 * 5);
    }
}
