/** Promise 6: through. */
final class ThroughTest {
    private static final int NONE = PathLists.NONE;

    private ThroughTest() {
    }

    public static void main(String[] args) {
        answers();
        wrongInputs();
        orders();
        startAndEndPins();
        onlyThoseThatGoThroughCount();
        unrelatedPins();
        Check.finish();
    }

    private static void answers() {
        PathLists net = Nets.diamond();
        Check.same("through(NONE, 3) with none", net.through(NONE, 3), false);
        Check.same("through(1, 3)", net.through(1, 3), true);
        Check.same("through(1, 3) once more", net.through(1, 3), false);
        Check.same("through 1", Nets.listed(net, 40), "4.0: 0 0 1 0");
        Check.same("through(1, 3) changes nothing", net.through(1, 3), false);
        Check.same("slack(0) is still listed", net.slack(0), 4);
        Check.same("through(2, 3) in its place", net.through(2, 3), true);
        Check.badState("slack(0) after through", () -> net.slack(0));
        Check.same("through 2", Nets.listed(net, 40), "6.5: 0 2 3 0");
        Check.same("through(NONE, 3)", net.through(NONE, 3), true);
        Check.badState("slack(0) after through(NONE)", () -> net.slack(0));
        Check.same("through none", Nets.listed(net, 40), "4.0: 0 0 1 0, 6.5: 0 2 3 0");
    }

    private static void wrongInputs() {
        PathLists net = Nets.diamond();
        net.run(1);
        Check.outOfBounds("through(4, 0)", () -> Check.number(net.through(4, 0)));
        Check.outOfBounds("through(-2, 0)", () -> Check.number(net.through(-2, 0)));
        Check.outOfBounds("through(4, 10)", () -> Check.number(net.through(4, 10)));
        Check.badArgument("through(0, 10)", () -> Check.number(net.through(0, 10)));
        Check.badArgument("through(0, -1)", () -> Check.number(net.through(0, -1)));
        Check.badArgument("through(NONE, 10)", () -> Check.number(net.through(NONE, 10)));
        Check.badArgument("through(NONE, MIN)", () -> Check.number(net.through(NONE, Integer.MIN_VALUE)));
        Check.same("slack(0): the calls that threw changed nothing", net.slack(0), 4);
        Check.same("through(0, 9)", net.through(0, 9), true);
        Check.same("through(0, 0)", net.through(0, 0), true);
    }

    private static void orders() {
        PathLists net = Nets.pins(4);
        net.arc(3, 2, 1);
        net.arc(2, 1, 1);
        net.arc(1, 0, 1);
        net.arc(3, 1, 5);
        net.start(3, 0);
        net.end(0, 0);
        net.through(2, 4);
        net.through(1, 7);
        Check.same("2, then 1", Nets.listed(net, 40), "-3.0: 0 0 1 2 0");
        net.through(2, 9);
        Check.same("2, then 1, then 2", Nets.listed(net, 40), "");
        net.through(NONE, 4);
        Check.same("1, then 2", Nets.listed(net, 40), "");
        net.through(1, 9);
        Check.same("1, then 1", Nets.listed(net, 40), "-6.0: 0 3 2 0, -3.0: 0 0 1 2 0");
        net.through(3, 0);
        net.through(0, 8);
        Check.same("3, then 1, then 0, then 1", Nets.listed(net, 40), "");
        net.through(0, 9);
        Check.same("3, then 1, then 0, then 0", Nets.listed(net, 40), "-6.0: 0 3 2 0, -3.0: 0 0 1 2 0");
        for (int order = 0; order < 10; order++) {
            net.through(2, order);
        }
        Check.same("2, ten times", Nets.listed(net, 40), "-3.0: 0 0 1 2 0");
    }

    private static void startAndEndPins() {
        PathLists net = Nets.pins(3);
        net.arc(0, 1, 1);
        net.arc(1, 2, 1);
        net.start(0, 0);
        net.start(1, 0);
        net.end(1, 0);
        net.end(2, 0);
        net.through(0, 0);
        Check.same("through the first start's pin", Nets.listed(net, 40), "-2.0: 0 0 1 1, -1.0: 0 0 0");
        net.through(2, 1);
        Check.same("through the last end's pin too", Nets.listed(net, 40), "-2.0: 0 0 1 1");
        net.through(1, 0);
        net.through(1, 1);
        Check.same("through the pin between", Nets.listed(net, 40),
            "-2.0: 0 0 1 1, -1.0: 0 0 0, -1.0: 1 1 1, 0.0: 1 0");
    }

    private static void onlyThoseThatGoThroughCount() {
        PathLists net = Nets.diamond();
        net.through(2, 0);
        Check.same("the first of those that go through", Nets.listed(net, 1), "6.5: 0 2 3 0");
    }

    private static void unrelatedPins() {
        PathLists net = Nets.diamond();
        net.through(1, 0);
        net.through(2, 1);
        Check.same("1, then 2 of the diamond", net.run(40), 0);
        net.through(2, 0);
        net.through(1, 1);
        Check.same("2, then 1 of the diamond", net.run(40), 0);
        net.pin();
        net.through(1, 0);
        net.through(4, 1);
        Check.same("1, then a pin that stands alone", net.run(40), 0);
    }
}
