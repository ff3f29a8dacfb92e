/**
 * Terms: "IllegalStateException: .. of paths: there was no run(), or something was changed since (pins, arcs, starts,
 * ends, groups, through, delays; a call that makes nothing another thing, as group() with the group that it has, or one
 * that answers false, changes nothing)." RefusedCallsTest has the calls that throw.
 */
final class ListingTest {
    private static final int NONE = PathLists.NONE;

    private ListingTest() {
    }

    public static void main(String[] args) {
        noRun();
        changesOfPins();
        changesOfArcs();
        changesOfStarts();
        changesOfEnds();
        changesOfGroups();
        changesOfThrough();
        changesOfDelays();
        changedAndAsItWas();
        callsThatMakeNothingAnotherThing();
        callsThatAnswerFalse();
        callsThatOnlyAsk();
        blocksAreNotPaths();
        runAgain();
        emptyList();
        Check.finish();
    }

    private static void noList(String what, PathLists net) {
        Check.badState("slack(0) " + what, () -> net.slack(0));
        Check.badState("at(0, 0) " + what, () -> net.at(0, 0));
        Check.badState("budget(0, 0) " + what, () -> net.budget(0, 0));
    }

    private static void ends(String what, Nets.Asked call) {
        PathLists net = Nets.rich();
        Check.same(what + " is not refused", Check.outcome(() -> call.of(net)).contains("Exception"), false);
        noList("after " + what, net);
    }

    /** A call after which all is listed that was before. */
    private static void keeps(String what, double answer, Nets.Asked call) {
        PathLists net = Nets.rich();
        String before = Nets.paths(net, 6);
        Check.same(what, call.of(net), answer);
        Check.same("the list after " + what, Check.outcome(() -> net.slack(0)), "2.0");
        Check.same("the paths after " + what, Nets.paths(net, 6), before);
        Check.same("budget(3, 3) after " + what, net.budget(3, 3), 5.5 * 4 / 5.5);
        Check.outOfBounds("slack(6) after " + what, () -> net.slack(6));
    }

    private static void noRun() {
        noList("of a new object", new PathLists());
        noList("without run()", Nets.diamond());
        PathLists net = Nets.diamond();
        Check.badArgument("run(0)", () -> net.run(0));
        Check.badArgument("run(41)", () -> net.run(41));
        noList("after run() that threw", net);
    }

    private static void changesOfPins() {
        ends("pin()", net -> net.pin());
    }

    private static void changesOfArcs() {
        ends("arc(0, 3, 0)", net -> net.arc(0, 3, 0));
        ends("an arc that no path has", net -> net.arc(3, net.pin(), 0));
    }

    private static void changesOfStarts() {
        ends("start(3, 0)", net -> net.start(3, 0));
    }

    private static void changesOfEnds() {
        ends("end(0, 1048576)", net -> net.end(0, 1048576));
    }

    private static void changesOfGroups() {
        ends("group(0, 7)", net -> net.group(0, 7));
        ends("group(2, 0)", net -> net.group(2, 0));
    }

    private static void changesOfThrough() {
        ends("through(0, 0)", net -> Check.number(net.through(0, 0)));
        ends("through(1, 4) in place of another", net -> Check.number(net.through(1, 4)));
        ends("through(NONE, 4)", net -> Check.number(net.through(NONE, 4)));
        ends("through(2, 5): the same paths go through", net -> Check.number(net.through(2, 5)));
    }

    private static void changesOfDelays() {
        ends("whatIf(0, 9)", net -> Check.number(net.whatIf(0, 9)));
        ends("back()", net -> Check.number(net.back()));
    }

    /** What was changed and changed back was changed. */
    private static void changedAndAsItWas() {
        ends("group(0, 7), group(0, 0)", net -> net.group(0, 7) + net.group(0, 0));
        ends("through(0, 0), through(NONE, 0)",
            net -> Check.number(net.through(0, 0)) + Check.number(net.through(NONE, 0)));
        ends("whatIf(0, 9), back()", net -> Check.number(net.whatIf(0, 9)) + Check.number(net.back()));
        ends("back(), whatIf(4, 2)", net -> Check.number(net.back()) + Check.number(net.whatIf(4, 2)));
    }

    private static void callsThatMakeNothingAnotherThing() {
        keeps("group(0, 0)", 2, net -> net.group(0, 0));
        keeps("group(2, 5)", 1, net -> net.group(2, 5));
    }

    private static void callsThatAnswerFalse() {
        keeps("through(2, 4)", 0, net -> Check.number(net.through(2, 4)));
        keeps("through(NONE, 0)", 0, net -> Check.number(net.through(NONE, 0)));
        keeps("whatIf(0, 2)", 0, net -> Check.number(net.whatIf(0, 2)));
        keeps("whatIf(4, 2)", 0, net -> Check.number(net.whatIf(4, 2)));
        keeps("into(1, 3)", 0, net -> Check.number(net.into(1, 3)));
        keeps("into(0, NONE)", 0, net -> Check.number(net.into(0, NONE)));
        PathLists net = Nets.diamond();
        net.run(1);
        Check.same("back() of nothing", net.back(), false);
        Check.same("slack(0) after back() of nothing", net.slack(0), 4);
    }

    private static void callsThatOnlyAsk() {
        keeps("slack(1)", 3, net -> net.slack(1));
        keeps("at(1, 1)", 4, net -> net.at(1, 1));
        keeps("budget(0, 1)", 0, net -> net.budget(0, 1));
        keeps("model(3)", 3, net -> net.model(3));
        keeps("reduced(3, 1, 2)", 2, net -> net.reduced(3, 1, 2));
    }

    /** Blocks are none of "pins, arcs, starts, ends, groups, through, delays". */
    private static void blocksAreNotPaths() {
        keeps("into(0, 3): no arc leads to it", 1, net -> Check.number(net.into(0, 3)));
        keeps("into(0, 7)", 1, net -> Check.number(net.into(0, 7)));
        PathLists net = Nets.rich();
        Check.same("into(3, 3)", net.into(3, 3), true);
        Check.same("budget(3, 3) of the block as it is now", net.budget(3, 3), 5.5);
        Check.same("into(3, NONE)", net.into(3, NONE), true);
        Check.same("budget(3, 3) of the block as it was", net.budget(3, 3), 4);
    }

    private static void runAgain() {
        PathLists net = Nets.diamond();
        net.run(1);
        net.start(1, 90);
        noList("before run() again", net);
        Check.same("run(1) again", Nets.listed(net, 1), "-83.0: 1 1 0");
        Check.same("run(3) without a change", Nets.listed(net, 3), "-83.0: 1 1 0, 4.0: 0 0 1 0, 6.5: 0 2 3 0");
        Check.same("run(2) without a change", Nets.listed(net, 2), "-83.0: 1 1 0, 4.0: 0 0 1 0");
        Check.outOfBounds("slack(2) of run(2)", () -> net.slack(2));
    }

    /** A list of no paths is a list: what is not there is out of bounds. */
    private static void emptyList() {
        PathLists net = new PathLists();
        Check.same("run(1) of a new object", net.run(1), 0);
        Check.outOfBounds("slack(0) of no paths", () -> net.slack(0));
        Check.outOfBounds("at(0, 0) of no paths", () -> net.at(0, 0));
        Check.outOfBounds("budget(0, 0) of no paths", () -> net.budget(0, 0));
        net.pin();
        noList("after pin()", net);
    }
}
