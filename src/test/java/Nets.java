/** Nets that several tests use. */
final class Nets {
    private Nets() {
    }

    static CoverRounds places(int... tokens) {
        return placesOn(new CoverRounds(), tokens);
    }

    static CoverRounds placesOn(CoverRounds net, int... tokens) {
        for (int count : tokens) {
            net.place(count);
        }
        return net;
    }

    static void target(CoverRounds net, int... tokens) {
        for (int p = 0; p < tokens.length; p++) {
            net.target(p, tokens[p]);
        }
    }

    /** Adds a transition; each arc is place, takes, gives. */
    static int transition(CoverRounds net, int... arcs) {
        int added = net.transition();
        for (int k = 0; k < arcs.length; k += 3) {
            net.arc(added, arcs[k], arcs[k + 1], arcs[k + 2]);
        }
        return added;
    }

    /** Each transition makes one token of its own place out of nothing. */
    static CoverRounds sources(int... tokens) {
        CoverRounds net = places(tokens);
        for (int p = 0; p < tokens.length; p++) {
            transition(net, p, 0, 1);
        }
        return net;
    }

    /** Transition 0 makes a token of place 0, transition 1 makes one of place 1 out of five of place 0. */
    static CoverRounds fiveForOne(int... tokens) {
        CoverRounds net = places(tokens);
        transition(net, 0, 0, 1);
        transition(net, 0, 5, 0, 1, 0, 1);
        return net;
    }

    /** Each transition takes a token of its own place: with 9 and 3 tokens the tree has C(14, 4) - 1 nodes. */
    static CoverRounds sinks(int... tokens) {
        CoverRounds net = places(tokens);
        for (int p = 0; p < tokens.length; p++) {
            transition(net, p, 1, 0);
        }
        return net;
    }

    /** One token goes from place 0 to place 1 and back, and leaves one at place 2 each time it is back. */
    static CoverRounds pump() {
        CoverRounds net = places(1, 0, 0);
        transition(net, 0, 1, 0, 1, 0, 1);
        transition(net, 1, 1, 0, 0, 0, 1, 2, 0, 1);
        return net;
    }
}
