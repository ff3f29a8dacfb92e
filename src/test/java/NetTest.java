/** Promises 1 to 5: a new object, pin, arc, end, start. */
final class NetTest {
    private static final double[] NO_TIMES = {0.1, 0.0625, -0.1, 1048576.125, -1048576.125, 1e300, -1e300, 1e-300,
        Double.NaN, Double.POSITIVE_INFINITY, Double.NEGATIVE_INFINITY, Double.MAX_VALUE, Double.MIN_VALUE};

    private NetTest() {
    }

    public static void main(String[] args) {
        promise1();
        promise2();
        promise3();
        promise3Circles();
        promise3Limits();
        promise4();
        promise5();
        Check.finish();
    }

    private static void promise1() {
        PathLists net = new PathLists();
        Check.badState("slack(0) of a new object", () -> net.slack(0));
        Check.badState("at(0, 0) of a new object", () -> net.at(0, 0));
        Check.badState("budget(0, 0) of a new object", () -> net.budget(0, 0));
        Check.outOfBounds("arc(0, 1, 1) of a new object", () -> net.arc(0, 1, 1));
        Check.outOfBounds("start(0, 1) of a new object", () -> net.start(0, 1));
        Check.outOfBounds("end(0, 1) of a new object", () -> net.end(0, 1));
        Check.outOfBounds("through(0, 0) of a new object", () -> Check.number(net.through(0, 0)));
        Check.outOfBounds("into(0, 0) of a new object", () -> Check.number(net.into(0, 0)));
        Check.outOfBounds("reduced(0, 0, 0) of a new object", () -> net.reduced(0, 0, 0));
        Check.outOfBounds("group(0, 0) of a new object", () -> net.group(0, 0));
        Check.outOfBounds("whatIf(0, 1) of a new object", () -> Check.number(net.whatIf(0, 1)));
        Check.same("through(NONE, 0) of a new object", net.through(PathLists.NONE, 0), false);
        Check.same("model(7) of a new object", net.model(7), 0);
        Check.same("back() of a new object", net.back(), false);
        Check.same("run(40) of a new object", net.run(40), 0);
        Check.outOfBounds("slack(0) of an empty list", () -> net.slack(0));
        Check.same("NONE", PathLists.NONE, -1);
        PathLists other = new PathLists();
        net.pin();
        Check.same("pin() of another object", other.pin(), 0);
    }

    private static void promise2() {
        PathLists net = new PathLists();
        for (int i = 0; i < 60; i++) {
            Check.same("pin()", net.pin(), i);
        }
        net.run(1);
        Check.badState("the 61st pin()", () -> net.pin());
        Check.outOfBounds("slack(0): the call that threw changed nothing", () -> net.slack(0));
        Check.outOfBounds("start(60, 0)", () -> net.start(60, 0));
        Check.same("start(59, 0)", net.start(59, 0), 0);

        PathLists more = Nets.diamond();
        more.run(1);
        Check.same("pin() of the diamond", more.pin(), 4);
        Check.badState("slack(0): a pin is a change", () -> more.slack(0));
    }

    private static void promise3() {
        PathLists net = Nets.pins(3);
        Check.same("arc(2, 1, 0)", net.arc(2, 1, 0), 0);
        Check.same("arc(2, 1, 0) once more", net.arc(2, 1, 0), 1);
        Check.same("arc(0, 2, 0.125)", net.arc(0, 2, 0.125), 2);
        Check.same("arc(0, 2, 1048576)", net.arc(0, 2, 1048576), 3);
        Check.same("arc(0, 1, -0.0)", net.arc(0, 1, -0.0), 4);
        net.run(1);
        for (double delay : NO_TIMES) {
            Check.badArgument("arc(0, 1, " + delay + ")", () -> net.arc(0, 1, delay));
        }
        Check.badArgument("arc(0, 1, -0.125)", () -> net.arc(0, 1, -0.125));
        Check.badArgument("arc(0, 1, -1)", () -> net.arc(0, 1, -1));
        int[] noPins = {-1, 3, Integer.MIN_VALUE, Integer.MAX_VALUE, 60};
        for (int pin : noPins) {
            Check.outOfBounds("arc(" + pin + ", 1, NaN)", () -> net.arc(pin, 1, Double.NaN));
            Check.outOfBounds("arc(1, " + pin + ", 1)", () -> net.arc(1, pin, 1));
        }
        Check.outOfBounds("slack(0): the calls that threw changed nothing", () -> net.slack(0));
        Check.same("arc(0, 1, 7)", net.arc(0, 1, 7), 5);
        Check.badState("slack(0): an arc is a change", () -> net.slack(0));
        net.start(0, 0);
        net.end(1, 0);
        Check.same("the paths by the arcs that were made", Nets.listed(net, 40),
            "-1048576.0: 0 3 0 0, -1048576.0: 0 3 1 0, -7.0: 0 5 0, -0.125: 0 2 0 0, -0.125: 0 2 1 0, 0.0: 0 4 0");
    }

    private static void promise3Circles() {
        PathLists net = Nets.pins(6);
        Check.badArgument("arc(3, 3, 1)", () -> net.arc(3, 3, 1));
        net.arc(5, 4, 1);
        net.arc(3, 2, 1);
        net.arc(4, 3, 1);
        net.arc(1, 0, 1);
        net.arc(2, 1, 1);
        for (int from = 0; from < 6; from++) {
            for (int to = from; to < 6; to++) {
                int tail = from;
                int head = to;
                Check.badArgument("arc(" + from + ", " + to + ", 1)", () -> net.arc(tail, head, 1));
            }
        }
        int number = 5;
        for (int from = 0; from < 6; from++) {
            for (int to = 0; to < from; to++) {
                Check.same("arc(" + from + ", " + to + ", 1)", net.arc(from, to, 1), number);
                number++;
            }
        }
        net.start(5, 0);
        net.end(0, 0);
        Check.same("the longest path", Nets.listed(net, 1), "-5.0: 0 0 2 1 4 3 0");

        PathLists joined = Nets.pins(4);
        joined.arc(0, 1, 0);
        joined.arc(2, 3, 0);
        joined.arc(3, 0, 0);
        Check.badArgument("arc(1, 2, 0): a circle of delays 0", () -> joined.arc(1, 2, 0));
        Check.same("arc(2, 1, 0)", joined.arc(2, 1, 0), 3);
    }

    private static void promise3Limits() {
        PathLists net = Nets.pins(2);
        for (int i = 0; i < 150; i++) {
            Check.same("arc(0, 1, 1)", net.arc(0, 1, 1), i);
        }
        net.run(1);
        Check.badState("the 151st arc", () -> net.arc(0, 1, 1));
        Check.badState("the 151st arc, with no delay", () -> net.arc(0, 1, 0.1));
        Check.badState("the 151st arc, in a circle", () -> net.arc(1, 0, 1));
        Check.outOfBounds("the 151st arc, from no pin", () -> net.arc(2, 1, 1));
        Check.outOfBounds("the 151st arc, to no pin", () -> net.arc(0, -1, 1));
        Check.outOfBounds("slack(0): the calls that threw changed nothing", () -> net.slack(0));
    }

    private static void promise4() {
        PathLists net = Nets.pins(2);
        net.start(0, 0);
        net.run(1);
        for (double time : NO_TIMES) {
            Check.badArgument("end(0, " + time + ")", () -> net.end(0, time));
        }
        Check.outOfBounds("end(2, 0)", () -> net.end(2, 0));
        Check.outOfBounds("end(-1, 0.1)", () -> net.end(-1, 0.1));
        Check.outOfBounds("slack(0): the calls that threw changed nothing", () -> net.slack(0));
        Check.same("end(0, 1048576)", net.end(0, 1048576), 0);
        Check.badState("slack(0): an end is a change", () -> net.slack(0));
        Check.same("end(0, -1048576)", net.end(0, -1048576), 1);
        Check.same("end(0, -0.125)", net.end(0, -0.125), 2);
        Check.same("the paths to the ends", Nets.listed(net, 40), "-1048576.0: 0 1, -0.125: 0 2, 1048576.0: 0 0");
        for (int i = 3; i < 30; i++) {
            Check.same("end(1, 0)", net.end(1, 0), i);
        }
        net.run(1);
        Check.badState("the 31st end", () -> net.end(1, 0));
        Check.badState("the 31st end, with no time", () -> net.end(1, 0.1));
        Check.outOfBounds("the 31st end, at no pin", () -> net.end(2, 0));
        Check.same("slack(0): the calls that threw changed nothing", net.slack(0), -1048576);
    }

    private static void promise5() {
        PathLists net = Nets.pins(2);
        net.end(0, 0);
        net.run(1);
        for (double time : NO_TIMES) {
            Check.badArgument("start(0, " + time + ")", () -> net.start(0, time));
        }
        Check.outOfBounds("start(2, 0)", () -> net.start(2, 0));
        Check.outOfBounds("start(-1, 0.1)", () -> net.start(-1, 0.1));
        Check.outOfBounds("slack(0): the calls that threw changed nothing", () -> net.slack(0));
        Check.same("start(0, 1048576)", net.start(0, 1048576), 0);
        Check.badState("slack(0): a start is a change", () -> net.slack(0));
        Check.same("start(0, -1048576)", net.start(0, -1048576), 1);
        Check.same("start(0, 0.125)", net.start(0, 0.125), 2);
        Check.same("the paths from the starts", Nets.listed(net, 40),
            "-1048576.0: 0 0, -0.125: 2 0, 1048576.0: 1 0");
        for (int i = 3; i < 30; i++) {
            Check.same("start(1, 0)", net.start(1, 0), i);
        }
        net.run(1);
        Check.badState("the 31st start", () -> net.start(1, 0));
        Check.badState("the 31st start, with no time", () -> net.start(1, 0.1));
        Check.outOfBounds("the 31st start, at no pin", () -> net.start(2, 0));
        Check.same("slack(0): the calls that threw changed nothing", net.slack(0), -1048576);
    }
}
