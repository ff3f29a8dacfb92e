/** The example of README.md, call by call: what its comments say is what the calls answer. */
final class ReadmeTest {
    private ReadmeTest() {
    }

    public static void main(String[] args) {
        PathLists net = new PathLists();
        build(net);
        askPaths(net);
        askBlocks(net);
        tryAnotherDelay(net);
        goThrough(net);
        Check.finish();
    }

    private static void build(PathLists net) {
        Check.same("the pin a", net.pin(), 0);
        Check.same("the pin b", net.pin(), 1);
        Check.same("the pin c", net.pin(), 2);
        Check.same("arc(a, b, 2.5)", net.arc(0, 1, 2.5), 0);
        Check.same("arc(b, c, 1.5)", net.arc(1, 2, 1.5), 1);
        Check.same("arc(a, c, 3)", net.arc(0, 2, 3), 2);
        Check.same("start(a, 1)", net.start(0, 1), 0);
        Check.same("end(c, 10)", net.end(2, 10), 0);
        Check.same("end(b, 6)", net.end(1, 6), 1);
        Check.same("group(1, 4)", net.group(1, 4), 1);
    }

    private static void askPaths(PathLists net) {
        Check.same("run(1)", net.run(1), 2);
        Check.same("run(40)", net.run(40), 3);
        Check.same("slack(0)", net.slack(0), 2.5);
        Check.same("slack(1)", net.slack(1), 5);
        Check.same("at(1, 0)", net.at(1, 0), 0);
        Check.same("at(1, 1)", net.at(1, 1), 0);
        Check.same("at(1, 2)", net.at(1, 2), 1);
        Check.same("at(1, 3)", net.at(1, 3), 0);
        Check.outOfBounds("at(1, 4)", () -> net.at(1, 4));
    }

    private static void askBlocks(PathLists net) {
        Check.same("into(b, 0)", net.into(1, 0), true);
        Check.same("into(c, 0)", net.into(2, 0), true);
        Check.same("model(0)", net.model(0), 3);
        Check.same("reduced(0, b, c)", net.reduced(0, 1, 2), 1.5);
        Check.same("reduced(0, a, c)", net.reduced(0, 0, 2), -1);
        Check.same("budget(0, 1)", net.budget(0, 1), 5);
    }

    private static void tryAnotherDelay(PathLists net) {
        Check.same("whatIf(2, 3)", net.whatIf(2, 3), false);
        Check.same("whatIf(2, 8)", net.whatIf(2, 8), true);
        Check.badState("slack(0) after whatIf(2, 8)", () -> net.slack(0));
        Check.same("run(1) with another delay", net.run(1), 2);
        Check.same("slack(0) with another delay", net.slack(0), 1);
        Check.same("back()", net.back(), true);
        Check.same("back() of nothing", net.back(), false);
    }

    private static void goThrough(PathLists net) {
        Check.same("through(b, 0)", net.through(1, 0), true);
        Check.same("through(c, 5)", net.through(2, 5), true);
        Check.same("run(40) through b, then c", net.run(40), 1);
        Check.same("through(NONE, 5)", net.through(PathLists.NONE, 5), true);
        Check.same("run(40) through b", net.run(40), 2);
    }
}
