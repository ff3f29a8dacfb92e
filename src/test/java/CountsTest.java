/**
 * Terms: "PINS 0 .. 59; ARCS 0 .. 149 from a pin to another one with a delay, without circles. A START is at a pin with
 * an arrival (30 at most), an END at a pin with a time that is REQUIRED (30 at most), and is of a GROUP 0 .. 7 (0 at
 * first)." What it is: "An object is used for at most 512 calls after it has been made".
 */
final class CountsTest {
    private CountsTest() {
    }

    public static void main(String[] args) {
        noPins();
        pins();
        arcs();
        starts();
        ends();
        fromAPinToAnotherOne();
        withoutCircles();
        groupsAtFirst();
        groups();
        manyCalls();
        manyObjects();
        Check.finish();
    }

    /** "PathLists(): No pins." */
    private static void noPins() {
        for (int pin = -1; pin <= 60; pin++) {
            int none = pin;
            PathLists net = new PathLists();
            Check.outOfBounds("start(" + pin + ", 0) of no pins", () -> net.start(none, 0));
            Check.outOfBounds("end(" + pin + ", 0) of no pins", () -> net.end(none, 0));
            Check.outOfBounds("arc(" + pin + ", 0, 0) of no pins", () -> net.arc(none, 0, 0));
            Check.outOfBounds("into(" + pin + ", 0) of no pins", () -> Check.number(net.into(none, 0)));
        }
    }

    private static void pins() {
        PathLists net = new PathLists();
        for (int pin = 0; pin < 60; pin++) {
            int next = pin;
            Check.outOfBounds("start(" + pin + ", 0) before that pin", () -> net.start(next, 0));
            Check.same("pin()", net.pin(), pin);
        }
        Check.badState("pin() after 59", () -> net.pin());
        Check.badState("pin() after 59 once more", () -> net.pin());
        Check.same("arc(59, 58, 1)", net.arc(59, 58, 1), 0);
        Check.same("start(59, 1)", net.start(59, 1), 0);
        Check.same("end(58, 4)", net.end(58, 4), 0);
        Check.same("through(59, 0)", net.through(59, 0), true);
        Check.same("into(59, 0)", net.into(59, 0), true);
        Check.same("reduced(0, 59, 59)", net.reduced(0, 59, 59), 0);
        Check.same("the path from pin 59", Nets.listed(net, 1), "2.0: 0 0 0");
        Check.outOfBounds("arc(60, 0, 1)", () -> net.arc(60, 0, 1));
        Check.outOfBounds("arc(0, 60, 1)", () -> net.arc(0, 60, 1));
        Check.outOfBounds("start(60, 1)", () -> net.start(60, 1));
        Check.outOfBounds("end(60, 1)", () -> net.end(60, 1));
        Check.outOfBounds("through(60, 0)", () -> Check.number(net.through(60, 0)));
        Check.outOfBounds("into(60, 0)", () -> Check.number(net.into(60, 0)));
        Check.outOfBounds("reduced(0, 60, 59)", () -> net.reduced(0, 60, 59));
        Check.outOfBounds("reduced(0, 59, 60)", () -> net.reduced(0, 59, 60));
    }

    private static void arcs() {
        PathLists net = Nets.pins(3);
        for (int arc = 0; arc < 150; arc++) {
            int next = arc;
            Check.outOfBounds("whatIf(" + arc + ", 2) before that arc", () -> Check.number(net.whatIf(next, 2)));
            Check.same("arc(0, 1, 1)", net.arc(0, 1, 1), arc);
        }
        Check.badState("arc(0, 1, 1) after 149", () -> net.arc(0, 1, 1));
        Check.badState("arc(1, 2, 1) after 149", () -> net.arc(1, 2, 1));
        Check.outOfBounds("whatIf(150, 2)", () -> Check.number(net.whatIf(150, 2)));
        Check.same("whatIf(149, 2)", net.whatIf(149, 2), true);
        net.start(0, 0);
        net.end(1, 0);
        net.end(2, 0);
        Check.same("the path of arc 149", Nets.listed(net, 2), "-2.0: 0 149 0, -1.0: 0 0 0");
    }

    private static void starts() {
        PathLists net = Nets.pins(2);
        for (int start = 0; start < 30; start++) {
            Check.same("start(0, " + start + ")", net.start(0, start), start);
        }
        Check.badState("start(0, 30) after 29", () -> net.start(0, 30));
        Check.badState("start(1, 30) after 29", () -> net.start(1, 30));
        Check.same("end(0, 0) after 30 starts", net.end(0, 0), 0);
        Check.same("run(40) of 30 starts", net.run(40), 30);
        Check.same("the path of start 29", Nets.path(net, 0), "-29.0: 29 0");
        Check.same("the path of start 0", Nets.path(net, 29), "0.0: 0 0");
    }

    private static void ends() {
        PathLists net = Nets.pins(2);
        for (int end = 0; end < 30; end++) {
            int next = end;
            Check.outOfBounds("group(" + end + ", 0) before that end", () -> net.group(next, 0));
            Check.same("end(0, " + -end + ")", net.end(0, -end), end);
        }
        Check.badState("end(0, 30) after 29", () -> net.end(0, 30));
        Check.badState("end(1, 30) after 29", () -> net.end(1, 30));
        Check.outOfBounds("group(30, 0)", () -> net.group(30, 0));
        Check.same("start(0, 0) after 30 ends", net.start(0, 0), 0);
        Check.same("run(40) of 30 ends", net.run(40), 30);
        Check.same("the path to end 29", Nets.path(net, 0), "-29.0: 0 29");
        Check.same("the path to end 0", Nets.path(net, 29), "0.0: 0 0");
    }

    private static void fromAPinToAnotherOne() {
        PathLists net = Nets.pins(60);
        for (int pin = 0; pin < 60; pin++) {
            int same = pin;
            Check.badArgument("arc(" + pin + ", " + pin + ", 1)", () -> net.arc(same, same, 1));
        }
        Check.same("arc(0, 1, 1): the first one", net.arc(0, 1, 1), 0);
    }

    /** Circles of two arcs, of three, and of sixty; what only joins two ways is none. */
    private static void withoutCircles() {
        PathLists two = Nets.pins(2);
        two.arc(1, 0, 1);
        Check.badArgument("arc(0, 1, 1): a circle of two", () -> two.arc(0, 1, 1));
        Check.same("arc(1, 0, 1): one beside the other", two.arc(1, 0, 1), 1);

        PathLists three = Nets.pins(3);
        three.arc(0, 1, 0);
        three.arc(1, 2, 0);
        Check.badArgument("arc(2, 0, 0): a circle of three", () -> three.arc(2, 0, 0));
        Check.same("arc(0, 2, 0): a way beside", three.arc(0, 2, 0), 2);

        PathLists sixty = Nets.pins(60);
        for (int pin = 0; pin < 59; pin++) {
            sixty.arc(pin, pin + 1, 1048576);
        }
        Check.badArgument("arc(59, 0, 1): a circle of sixty", () -> sixty.arc(59, 0, 1));
        Check.badArgument("arc(59, 58, 1)", () -> sixty.arc(59, 58, 1));
        Check.same("arc(0, 59, 1)", sixty.arc(0, 59, 1), 59);
    }

    private static void groupsAtFirst() {
        PathLists net = Nets.pins(1);
        net.start(0, 0);
        net.end(0, 1);
        Check.same("group(0, 0): an end is of group 0", net.group(0, 0), 1);
        net.group(0, 3);
        net.end(0, 2);
        net.end(0, 3);
        Check.same("group(1, 0): ends that came later are of group 0", net.group(1, 0), 2);
        Check.same("one of group 0, one of group 3", Nets.listed(net, 1), "1.0: 0 0, 2.0: 0 1");
    }

    private static void groups() {
        PathLists net = Nets.pins(1);
        net.start(0, 0);
        for (int end = 0; end < 30; end++) {
            net.end(0, end);
        }
        Check.same("group(29, 0): all of them", net.group(29, 0), 30);
        for (int g = 0; g <= 7; g++) {
            Check.same("group(" + g + ", " + g + ")", net.group(g, g), g == 0 ? 30 : 1);
        }
        Check.same("run(1): one of each group", net.run(1), 8);
        Check.badArgument("group(0, 8)", () -> net.group(0, 8));
        Check.badArgument("group(0, -1)", () -> net.group(0, -1));
        for (int end = 0; end < 30; end++) {
            net.group(end, 7);
        }
        Check.same("group(0, 7): all of them", net.group(0, 7), 30);
        Check.same("run(1) of one group", net.run(1), 1);
    }

    /** "At most 512 calls": all that an object can hold, runs of the greatest size, and an answer as the last call. */
    private static void manyCalls() {
        PathLists net = Nets.largest();
        int calls = Nets.CALLS_OF_LARGEST;
        for (int i = 0; i < 50; i++) {
            Check.same("run(40) with " + (50 - i) + " to take back", net.run(40), 320);
            Check.same("back()", net.back(), true);
            calls += 2;
        }
        Check.same("back() after 50", net.back(), false);
        calls++;
        for (int i = 0; i < 32; i++) {
            Check.same("whatIf(" + i + ", 9)", net.whatIf(i, 9), true);
            Check.same("run(40) with " + (i + 1) + " to take back", net.run(40), 320);
            calls += 2;
        }
        Check.same("slack(0)", net.slack(0), 0 - 29 - 32 * 9 - 27 * 1);
        calls++;
        Check.same("the calls on the object", calls, 512);
    }

    /** Objects have nothing together: what is done with one of them is not seen of another one. */
    private static void manyObjects() {
        PathLists one = Nets.diamond();
        PathLists other = Nets.diamond();
        one.run(2);
        other.whatIf(0, 50);
        other.through(2, 3);
        other.group(0, 4);
        other.into(0, 2);
        other.start(2, 9);
        Check.same("the list of the one", Nets.paths(one, 2), "4.0: 0 0 1 0, 6.5: 0 2 3 0");
        Check.same("back() of the one", one.back(), false);
        Check.same("through(NONE, 3) of the one", one.through(PathLists.NONE, 3), false);
        Check.same("group(0, 0) of the one", one.group(0, 0), 1);
        Check.same("into(0, NONE) of the one", one.into(0, PathLists.NONE), false);
        Check.same("start(0, 0) of the one", one.start(0, 0), 1);
    }
}
