import java.util.Arrays;

/** Made-up runs of 512 calls, in any order and with wrong arguments among them, each compared with PlainFace. */
public final class CallsTest {
    private static final int RUNS = 150;
    private static final int CALLS = 512;
    private static final int[] FAR_OFF = {Integer.MIN_VALUE, Integer.MIN_VALUE + 1, -1000, 1000, Integer.MAX_VALUE};

    /** The calls, each as often as it is to be made among the others. */
    private static final String[] NAMES = {
        "place", "transition", "arc", "arc", "arc", "arc", "target", "target", "rounds", "grow", "steps",
        "witness", "witness", "least", "least", "most", "most", "live", "live", "limits", "limit", "limit",
        "covers", "covers", "fire", "fire", "fire", "tokens", "tokens", "tokens"};

    private static final Check CHECK = new Check("CallsTest");
    private static final MadeUp MADE_UP = new MadeUp(16112026L);
    private static final int[] ENDINGS_SEEN = new int[3];
    private static int treesSeen = 0;
    private static int tooManySeen = 0;

    /** Few tokens moved make nets that grow trees which fit; it is another number in each run. */
    private static int mostMoved = 0;

    public static void main(String[] args) {
        for (int k = 0; k < RUNS; k++) {
            run(k);
        }
        System.out.println("endings NONE, 0, 1: " + Arrays.toString(ENDINGS_SEEN) + ", trees that fit: " + treesSeen
                + ", others: " + tooManySeen);
        CHECK.yes("rounds of each ending", Arrays.stream(ENDINGS_SEEN).allMatch(seen -> seen > 10));
        CHECK.yes("trees that fit, and others", treesSeen > 100 && tooManySeen > 100);
        CHECK.finish();
    }

    private static void run(int k) {
        CoverRounds x = new CoverRounds();
        PlainFace plain = new PlainFace();
        mostMoved = 1 + MADE_UP.next(4);
        int told = MADE_UP.next(40);
        for (int call = 1; call <= CALLS; call++) {
            String name = call <= told ? beginning() : NAMES[MADE_UP.next(NAMES.length - 1)];
            compare("run " + k + " call " + call + " ", name, x, plain);
        }
    }

    /** A run begins by telling a net, so that there is something to find. */
    private static String beginning() {
        return NAMES[MADE_UP.next(7)];
    }

    /** Mostly a number from 0 to most; at times one that is just beside these, or far off. */
    private static int number(int most) {
        int kind = MADE_UP.next(30);
        if (kind == 0) {
            return FAR_OFF[MADE_UP.next(FAR_OFF.length - 1)];
        }
        if (kind == 1) {
            return -1;
        }
        return kind == 2 ? most + 1 : MADE_UP.next(most);
    }

    private static int moved() {
        return MADE_UP.next(2) == 0 ? number(mostMoved) : 0;
    }

    private static int tokens() {
        return MADE_UP.next(1) == 0 ? number(20) : MADE_UP.next(3);
    }

    private static void compare(String at, String name, CoverRounds x, PlainFace plain) {
        switch (name) {
            case "place", "transition", "arc", "target" -> compareTelling(at, name, x, plain);
            case "rounds", "steps", "witness", "least" -> compareRounds(at, name, x, plain);
            case "fire", "tokens" -> compareNow(at, name, x, plain);
            default -> compareTree(at, name, x, plain);
        }
    }

    private static void compareTelling(String at, String name, CoverRounds x, PlainFace plain) {
        int place = number(4);
        int count = tokens();
        switch (name) {
            case "place" -> CHECK.due(at + "place(" + count + ")", x.place(count), plain.place(count));
            case "transition" -> CHECK.due(at + "transition()", x.transition(), plain.transition());
            case "target" -> due(at + "target(" + place + ", " + count + ")", x.target(place, count),
                    plain.target(place, count));
            default -> compareArc(at, number(5), place, x, plain);
        }
    }

    private static void compareArc(String at, int transition, int place, CoverRounds x, PlainFace plain) {
        int takes = moved();
        int gives = moved();
        due(at + "arc(" + transition + ", " + place + ", " + takes + ", " + gives + ")",
                x.arc(transition, place, takes, gives), plain.arc(transition, place, takes, gives));
    }

    private static void compareRounds(String at, String name, CoverRounds x, PlainFace plain) {
        int k = MADE_UP.next(2) == 0 ? number(60) : number(4);
        switch (name) {
            case "rounds" -> {
                int ending = plain.rounds();
                ENDINGS_SEEN[ending + 1]++;
                CHECK.due(at + "rounds() of " + plain, x.rounds(), ending);
            }
            case "steps" -> CHECK.due(at + "steps()", x.steps(), plain.steps());
            case "witness" -> CHECK.due(at + "witness(" + k + ")", x.witness(k), plain.witness(k));
            default -> CHECK.due(at + "least(" + k + ")", x.least(k), plain.least(k));
        }
    }

    private static void compareTree(String at, String name, CoverRounds x, PlainFace plain) {
        int place = number(4);
        int k = number(Math.max(0, plain.limits()));
        int transition = number(5);
        switch (name) {
            case "grow" -> {
                int nodes = plain.grow();
                treesSeen += nodes > 1 ? 1 : 0;
                tooManySeen += nodes < 0 ? 1 : 0;
                CHECK.due(at + "grow() of " + plain, x.grow(), nodes);
            }
            case "most" -> CHECK.due(at + "most(" + place + ")", x.most(place), plain.most(place));
            case "live" -> due(at + "live(" + transition + ")", x.live(transition), plain.live(transition));
            case "limits" -> CHECK.due(at + "limits()", x.limits(), plain.limits());
            case "limit" -> CHECK.due(at + "limit(" + k + ", " + place + ")", x.limit(k, place),
                    plain.limit(k, place));
            default -> due(at + "covers()", x.covers(), plain.covers());
        }
    }

    private static void compareNow(String at, String name, CoverRounds x, PlainFace plain) {
        int transition = number(5);
        int place = number(4);
        if (name.equals("fire")) {
            due(at + "fire(" + transition + ")", x.fire(transition), plain.fire(transition));
        } else {
            CHECK.due(at + "tokens(" + place + ")", x.tokens(place), plain.tokens(place));
        }
    }

    private static void due(String call, boolean got, boolean want) {
        CHECK.due(call, got ? 1 : 0, want ? 1 : 0);
    }
}
