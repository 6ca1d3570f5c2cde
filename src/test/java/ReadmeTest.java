import java.io.IOException;
import java.nio.file.Files;
import java.nio.file.Path;

/** The example of README.md answers what its comments say. It is run in the project's directory, as .ci/run does. */
public final class ReadmeTest {
    private static final Check CHECK = new Check("ReadmeTest");
    private static String readme = "";

    public static void main(String[] args) throws IOException {
        readme = Files.readString(Path.of("README.md"));
        CoverRounds net = new CoverRounds();
        int ready = net.place(1);
        stands("int ready = net.place(1);", ready, 0, "0:");
        int made = net.place(0);
        stands("int made = net.place(0);", made, 1, "1:");
        int make = net.transition();
        stands("int make = net.transition();", make, 0, "0:");
        stands("net.arc(make, ready, 1, 1);", net.arc(make, ready, 1, 1), "true:");
        stands("net.arc(make, made, 0, 2);", net.arc(make, made, 0, 2), "true:");
        rounds(net, made);
        tree(net, ready, made, make);
        stands("net.fire(make);", net.fire(make), "true:");
        stands("net.tokens(made);", net.tokens(made), 2, "2:");
        stands("net.place(21);", net.place(21), CoverRounds.NONE, "NONE:");
        stands("net.target(2, 1);", !net.target(2, 1), "false:");
        CHECK.finish();
    }

    private static void rounds(CoverRounds net, int made) {
        stands("net.target(made, 7);", net.target(made, 7), "true:");
        stands("net.rounds();", net.rounds(), 1, "1:");
        stands("net.steps();", net.steps(), 4, "4:");
        stands("net.witness(0);", net.witness(0), 0, "0:");
        stands("net.least(1);", net.least(1), 2, "2:");
    }

    private static void tree(CoverRounds net, int ready, int made, int make) {
        stands("net.grow();", net.grow(), 3, "3:");
        stands("net.most(made);", net.most(made), CoverRounds.OMEGA, "OMEGA:");
        stands("net.live(make);", net.live(make), "true:");
        stands("net.limits();", net.limits(), 1, "1:");
        stands("net.limit(0, ready);", net.limit(0, ready), 1, "1:");
        stands("net.covers();", net.covers(), "true:");
    }

    private static void stands(String code, boolean isAsTold, String told) {
        stands(code, isAsTold ? 1 : 0, 1, told);
    }

    /** README.md has the code on a line of its own, with a comment that begins with the answer. */
    private static void stands(String code, int got, int want, String told) {
        CHECK.due(code, got, want);
        boolean isThere = readme.lines().anyMatch(line -> line.startsWith(code)
                && line.substring(code.length()).strip().startsWith("// " + told));
        CHECK.yes("README.md has " + code + " // " + told, isThere);
    }
}
