/** Promises 15 and 16: whatIf, back. */
final class WhatIfTest {
    private static final double[] NO_DELAYS = {0.1, -0.125, -1, 1048576.125, -1048576, 1e300, Double.NaN,
        Double.POSITIVE_INFINITY, Double.NEGATIVE_INFINITY, Double.MIN_VALUE};

    private WhatIfTest() {
    }

    public static void main(String[] args) {
        promise15();
        promise15Limits();
        promise16();
        onlyOtherOnesCanBeTakenBack();
        fiftyOfOneArc();
        firstAndLastArc();
        latestFirst();
        delaysOfArcsThatComeLater();
        backKeepsAllElse();
        Check.finish();
    }

    private static void promise15() {
        PathLists net = Nets.diamond();
        net.run(1);
        Check.same("whatIf(2, 1): the delay that it has", net.whatIf(2, 1), false);
        Check.same("slack(0) is still listed", net.slack(0), 4);
        Check.same("back(): nothing was changed", net.back(), false);
        for (double delay : NO_DELAYS) {
            Check.badArgument("whatIf(0, " + delay + ")", () -> Check.number(net.whatIf(0, delay)));
        }
        int[] noArcs = {-1, 4, 150, Integer.MIN_VALUE, Integer.MAX_VALUE};
        for (int arc : noArcs) {
            Check.outOfBounds("whatIf(" + arc + ", NaN)", () -> Check.number(net.whatIf(arc, Double.NaN)));
        }
        Check.same("slack(0): the calls that threw changed nothing", net.slack(0), 4);
        Check.same("whatIf(2, 8)", net.whatIf(2, 8), true);
        Check.badState("slack(0) after whatIf", () -> net.slack(0));
        Check.same("the paths then", Nets.listed(net, 2), "-0.5: 0 2 3 0, 4.0: 0 0 1 0");
        Check.same("whatIf(2, 8): the delay that it has by now", net.whatIf(2, 8), false);
        Check.same("whatIf(2, 1): the delay that it had", net.whatIf(2, 1), true);
        Check.same("whatIf(2, 0)", net.whatIf(2, 0), true);
        Check.same("whatIf(2, -0.0): it is the same", net.whatIf(2, -0.0), false);
        Check.same("whatIf(3, 1048576)", net.whatIf(3, 1048576), true);
    }

    private static void promise15Limits() {
        PathLists net = Nets.diamond();
        for (int i = 0; i < 50; i++) {
            Check.same("whatIf(" + i % 4 + ", " + (10 + i) + ")", net.whatIf(i % 4, 10 + i), true);
        }
        net.run(1);
        Check.badState("the 51st whatIf", () -> Check.number(net.whatIf(0, 1)));
        Check.badState("the 51st whatIf, with no delay", () -> Check.number(net.whatIf(0, 0.1)));
        Check.badState("the 51st whatIf, with the delay that it has", () -> Check.number(net.whatIf(1, 59)));
        Check.outOfBounds("the 51st whatIf, of no arc", () -> Check.number(net.whatIf(4, 1)));
        Check.same("slack(0): the calls that threw changed nothing", net.slack(0), 10 - 1 - 58 - 59);
        Check.same("back()", net.back(), true);
        Check.same("whatIf after back()", net.whatIf(0, 1), true);
        for (int i = 0; i < 50; i++) {
            Check.same("back() " + i, net.back(), true);
        }
        Check.same("the 51st back()", net.back(), false);
        Check.same("all as it was", Nets.listed(net, 2), "4.0: 0 0 1 0, 6.5: 0 2 3 0");
    }

    private static void promise16() {
        PathLists net = Nets.diamond();
        Check.same("back() of nothing", net.back(), false);
        net.whatIf(0, 5);
        net.whatIf(3, 0);
        net.whatIf(0, 6);
        net.arc(0, 3, 0.5);
        net.whatIf(4, 20);
        Check.same("with four other delays", Nets.listed(net, 3), "-11.0: 0 4 0, 0.0: 0 0 1 0, 8.0: 0 2 3 0");
        Check.same("back()", net.back(), true);
        Check.badState("slack(0) after back()", () -> net.slack(0));
        Check.same("with three", Nets.listed(net, 3), "0.0: 0 0 1 0, 8.0: 0 2 3 0, 8.5: 0 4 0");
        net.back();
        Check.same("with two", Nets.listed(net, 3), "1.0: 0 0 1 0, 8.0: 0 2 3 0, 8.5: 0 4 0");
        net.back();
        Check.same("with one", Nets.listed(net, 3), "1.0: 0 0 1 0, 6.5: 0 2 3 0, 8.5: 0 4 0");
        Check.same("the last back()", net.back(), true);
        Check.same("with none", Nets.listed(net, 3), "4.0: 0 0 1 0, 6.5: 0 2 3 0, 8.5: 0 4 0");
        Check.same("back() when all is as it was", net.back(), false);
        Check.same("slack(0) is still listed", net.slack(0), 4);
        net.into(0, 0);
        net.into(1, 0);
        net.whatIf(0, 7);
        Check.same("reduced with another delay", net.reduced(0, 0, 1), 7);
        net.back();
        Check.same("reduced as it was", net.reduced(0, 0, 1), 2);
    }

    /** "whether it is another one (only then it can be taken back)": what answers false is none of the 50. */
    private static void onlyOtherOnesCanBeTakenBack() {
        PathLists net = Nets.diamond();
        for (int i = 0; i < 60; i++) {
            Check.same("whatIf(0, 2) " + i, net.whatIf(0, 2), false);
        }
        for (int i = 0; i < 49; i++) {
            Check.same("whatIf(0, " + (3 + i) + ")", net.whatIf(0, 3 + i), true);
        }
        Check.same("whatIf(0, 51): the delay that it has, with 49", net.whatIf(0, 51), false);
        Check.same("whatIf(0, 2): the 50th", net.whatIf(0, 2), true);
        Check.badState("whatIf(0, 3): the 51st", () -> Check.number(net.whatIf(0, 3)));
        for (int i = 0; i < 50; i++) {
            Check.same("back() " + i, net.back(), true);
        }
        Check.same("back() 50", net.back(), false);
    }

    /** "50 can be taken back": each back() makes room for one. */
    private static void fiftyOfOneArc() {
        PathLists net = Nets.pins(2);
        net.arc(0, 1, 100);
        net.start(0, 0);
        net.end(1, 0);
        for (int i = 0; i < 50; i++) {
            Check.same("whatIf(0, " + i + ")", net.whatIf(0, i), true);
        }
        Check.badState("whatIf(0, 50)", () -> Check.number(net.whatIf(0, 50)));
        for (int i = 48; i >= 0; i--) {
            Check.same("back()", net.back(), true);
            Check.same("the delay is " + i, Nets.listed(net, 1), (i == 0 ? "0.0" : "-" + i + ".0") + ": 0 0 0");
        }
        Check.same("the last back()", net.back(), true);
        Check.same("the delay is 100", Nets.listed(net, 1), "-100.0: 0 0 0");
        Check.same("back() once more", net.back(), false);
        Check.same("back() of nothing leaves the list", net.slack(0), -100);
    }

    private static void firstAndLastArc() {
        PathLists net = Nets.pins(2);
        for (int arc = 0; arc < 150; arc++) {
            net.arc(0, 1, 1);
        }
        net.start(0, 0);
        net.end(1, 0);
        Check.same("whatIf(0, 3)", net.whatIf(0, 3), true);
        Check.same("whatIf(149, 4)", net.whatIf(149, 4), true);
        Check.same("the paths", Nets.listed(net, 3), "-4.0: 0 149 0, -3.0: 0 0 0, -1.0: 0 1 0");
        Check.outOfBounds("whatIf(150, 4)", () -> Check.number(net.whatIf(150, 4)));
        Check.outOfBounds("whatIf(-1, 4)", () -> Check.number(net.whatIf(-1, 4)));
    }

    /** "The latest whatIf() is taken back": to what was before it, not to what was at first. */
    private static void latestFirst() {
        PathLists net = Nets.diamond();
        net.into(0, 0);
        net.into(1, 0);
        net.into(2, 0);
        net.into(3, 0);
        net.end(1, 0);
        net.end(2, 0);
        net.whatIf(0, 5);
        net.whatIf(2, 6);
        net.whatIf(0, 7);
        net.whatIf(2, 8);
        double[] first = {7, 7, 5, 5, 2};
        double[] second = {8, 6, 6, 1, 1};
        for (int i = 0; i < 5; i++) {
            Check.same("the delay of arc 0 after " + i + " back()", net.reduced(0, 0, 1), first[i]);
            Check.same("the delay of arc 2 after " + i + " back()", net.reduced(0, 0, 2), second[i]);
            Check.same("back() after " + i, net.back(), i < 4);
        }
    }

    /** Arcs may come while there are delays to take back. */
    private static void delaysOfArcsThatComeLater() {
        PathLists net = Nets.diamond();
        net.whatIf(3, 9);
        net.arc(0, 3, 4);
        Check.same("whatIf(4, 4): the delay that it came with", net.whatIf(4, 4), false);
        Check.same("whatIf(4, 0)", net.whatIf(4, 0), true);
        net.back();
        Check.same("with one", Nets.listed(net, 3), "-1.0: 0 2 3 0, 4.0: 0 0 1 0, 5.0: 0 4 0");
        net.back();
        Check.same("with none: the arc stays", Nets.listed(net, 3), "4.0: 0 0 1 0, 5.0: 0 4 0, 6.5: 0 2 3 0");
    }

    /** Only delays are taken back. */
    private static void backKeepsAllElse() {
        PathLists net = Nets.diamond();
        net.whatIf(0, 20);
        net.through(2, 1);
        net.group(0, 3);
        net.into(2, 5);
        net.start(2, 4);
        net.end(2, 6);
        net.back();
        Check.same("through(2, 1)", net.through(2, 1), false);
        Check.same("into(2, 5)", net.into(2, 5), false);
        Check.same("group(0, 3)", net.group(0, 3), 1);
        Check.same("the paths", Nets.listed(net, 40), "2.0: 1 1, 4.0: 0 2 1, 4.5: 1 3 0, 6.5: 0 2 3 0");
        Check.same("start(0, 0)", net.start(0, 0), 2);
        Check.same("end(0, 0)", net.end(0, 0), 2);
        Check.same("pin()", net.pin(), 4);
        Check.same("arc(0, 4, 0)", net.arc(0, 4, 0), 4);
    }
}
