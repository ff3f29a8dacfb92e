/**
 * Terms: "A PATH is a start, arcs that lead on from its pin, none or more, and an end at the pin where that comes to;
 * its SLACK is what is required less the arrival and the delays of its arcs." "PATHS stand by rising slacks; of the
 * same slack by their starts, then by their arcs (numbers in turn, a beginning before what goes on), then by their
 * ends."
 */
final class OrderTest {
    private OrderTest() {
    }

    public static void main(String[] args) {
        pathWithoutArcs();
        arcsLeadOnFromTheStart();
        endsWhereThePathComesTo();
        longestPath();
        slackOfAllThree();
        slackBelowZero();
        slackOfZero();
        slacksFirst();
        thenStarts();
        startsByNumber();
        thenArcs();
        arcsByNumber();
        arcsInTurn();
        beginningFirst();
        beginningFirstAfterStartsOnly();
        thenEnds();
        endsByNumber();
        groupsDoNotCount();
        pinsDoNotCount();
        Check.finish();
    }

    private static void listed(String what, PathLists net, String due) {
        Check.same(what, Nets.listed(net, 40), due);
    }

    /** "arcs .., none or more" */
    private static void pathWithoutArcs() {
        PathLists net = Nets.pins(2);
        net.start(1, 2);
        net.end(1, 5);
        listed("a start and an end at one pin", net, "3.0: 0 0");
        Check.outOfBounds("at(0, 2): behind the end", () -> net.at(0, 2));
        net.end(0, 1);
        listed("an end at another pin that no arc leads to", net, "3.0: 0 0");
    }

    /** "arcs that lead on" */
    private static void arcsLeadOnFromTheStart() {
        PathLists net = Nets.pins(3);
        net.arc(0, 1, 1);
        net.arc(1, 2, 1);
        net.start(2, 0);
        net.end(0, 9);
        listed("no way against the arcs", net, "");
        net.start(1, 0);
        net.end(2, 8);
        listed("arcs from the start's pin on", net, "7.0: 1 1 1, 8.0: 0 1");
    }

    /** "an end at the pin where that comes to": on the way, too. */
    private static void endsWhereThePathComesTo() {
        PathLists net = Nets.pins(4);
        net.arc(0, 1, 1);
        net.arc(1, 2, 1);
        net.arc(2, 3, 1);
        net.start(0, 0);
        for (int pin = 0; pin < 3; pin++) {
            net.end(pin, 10);
        }
        listed("ends on the way", net, "8.0: 0 0 1 2, 9.0: 0 0 1, 10.0: 0 0");
    }

    private static void longestPath() {
        PathLists net = Nets.pins(60);
        for (int pin = 0; pin < 59; pin++) {
            net.arc(pin, pin + 1, 1);
        }
        net.start(0, 0);
        net.end(59, 100);
        Check.same("run(40)", net.run(40), 1);
        Check.same("slack(0)", net.slack(0), 41);
        Check.same("at(0, 0)", net.at(0, 0), 0);
        for (int i = 1; i <= 59; i++) {
            Check.same("at(0, " + i + ")", net.at(0, i), i - 1);
        }
        Check.same("at(0, 60)", net.at(0, 60), 0);
        Check.outOfBounds("at(0, 61)", () -> net.at(0, 61));
    }

    private static void slackOfAllThree() {
        PathLists net = Nets.pins(3);
        net.arc(0, 1, 4.5);
        net.arc(1, 2, 0.25);
        net.start(0, 1.125);
        net.end(2, 10);
        listed("10 - 1.125 - 4.5 - 0.25", net, "4.125: 0 0 1 0");
    }

    private static void slackBelowZero() {
        PathLists net = Nets.pins(2);
        net.arc(0, 1, 4.5);
        net.start(0, -1);
        net.end(1, -2);
        listed("-2 - -1 - 4.5", net, "-5.5: 0 0 0");
    }

    private static void slackOfZero() {
        PathLists net = Nets.pins(2);
        net.arc(0, 1, 4);
        net.start(0, 3);
        net.end(1, 7);
        listed("7 - 3 - 4", net, "0.0: 0 0 0");
        net.whatIf(0, 4.125);
        listed("7 - 3 - 4.125", net, "-0.125: 0 0 0");
        net.whatIf(0, 3.875);
        listed("7 - 3 - 3.875", net, "0.125: 0 0 0");
    }

    /** "by rising slacks", though all else stands the other way round. */
    private static void slacksFirst() {
        PathLists net = Nets.pins(2);
        net.arc(0, 1, 0);
        net.arc(0, 1, 0.125);
        net.start(0, 0);
        net.start(0, 0.25);
        net.end(1, 0.5);
        net.end(1, 0);
        listed("all slacks are others", net, "-0.375: 1 1 1, -0.25: 1 0 1, -0.125: 0 1 1, 0.0: 0 0 1, "
            + "0.125: 1 1 0, 0.25: 1 0 0, 0.375: 0 1 0, 0.5: 0 0 0");
    }

    /** "by their starts, then by their arcs", "then by their ends" */
    private static void thenStarts() {
        PathLists net = Nets.pins(2);
        net.end(1, 0);
        net.end(1, 0);
        net.arc(0, 1, 1);
        net.start(1, 1);
        net.start(0, 0);
        listed("start 0 before start 1, though it comes to its end later", net,
            "-1.0: 0 0, -1.0: 0 1, -1.0: 1 0 0, -1.0: 1 0 1");
        PathLists other = Nets.pins(2);
        other.arc(0, 1, 1);
        other.arc(0, 1, 1);
        other.start(0, 0);
        other.start(1, 1);
        other.end(1, 0);
        listed("start 0 before start 1, though that has no arcs", other, "-1.0: 0 0 0, -1.0: 0 1 0, -1.0: 1 0");
    }

    private static void startsByNumber() {
        PathLists net = Nets.pins(30);
        net.end(0, 0);
        for (int pin = 29; pin > 0; pin--) {
            net.arc(pin, 0, 1);
        }
        for (int start = 0; start < 30; start++) {
            net.start(start, start == 0 ? 1 : 0);
        }
        Check.same("run(40)", net.run(40), 30);
        for (int path = 0; path < 30; path++) {
            Check.same("the start of path " + path, net.at(path, 0), path);
        }
    }

    private static void thenArcs() {
        PathLists net = Nets.pins(2);
        net.end(1, 0);
        net.end(1, 0);
        net.start(0, 0);
        net.arc(0, 1, 1);
        net.arc(0, 1, 1);
        listed("arc 0 with both ends before arc 1", net, "-1.0: 0 0 0, -1.0: 0 0 1, -1.0: 0 1 0, -1.0: 0 1 1");
    }

    /** By numbers, not by digits: 9 before 10, and 99 before 100. */
    private static void arcsByNumber() {
        PathLists net = Nets.pins(2);
        net.end(1, 0);
        net.start(0, 0);
        for (int arc = 0; arc < 150; arc++) {
            net.arc(0, 1, arc >= 80 && arc < 120 ? 1 : 0);
        }
        Check.same("run(40)", net.run(40), 40);
        for (int path = 0; path < 40; path++) {
            Check.same("the arc of path " + path, net.at(path, 1), 80 + path);
        }
    }

    /** "numbers in turn": the first two that differ decide, not how many arcs there are, nor what comes behind. */
    private static void arcsInTurn() {
        PathLists net = Nets.pins(5);
        net.arc(3, 4, 1);
        net.arc(0, 3, 1);
        net.arc(0, 1, 1);
        net.arc(1, 4, 1);
        net.arc(1, 2, 0);
        net.arc(2, 4, 1);
        net.arc(0, 4, 2);
        net.start(0, 0);
        net.end(4, 0);
        listed("1 0, then 2 3, then 2 4 5, then 6", net,
            "-2.0: 0 1 0 0, -2.0: 0 2 3 0, -2.0: 0 2 4 5 0, -2.0: 0 6 0");
    }

    /** "a beginning before what goes on", "then by their ends": though its end is the later one. */
    private static void beginningFirst() {
        PathLists net = Nets.pins(4);
        net.arc(0, 1, 1);
        net.arc(1, 2, 0);
        net.arc(2, 3, 0);
        net.start(0, 0);
        net.end(3, 0);
        net.end(2, 0);
        net.end(1, 0);
        listed("three ends on one way", net, "-1.0: 0 0 2, -1.0: 0 0 1 1, -1.0: 0 0 1 2 0");
        net.end(0, -1);
        listed("no arcs before some", net, "-1.0: 0 3, -1.0: 0 0 2, -1.0: 0 0 1 1, -1.0: 0 0 1 2 0");
    }

    /** The beginning of a path that has another start does not come first. */
    private static void beginningFirstAfterStartsOnly() {
        PathLists net = Nets.pins(3);
        net.arc(0, 1, 0);
        net.arc(1, 2, 0);
        net.start(0, 0);
        net.start(0, 0);
        net.end(2, 0);
        net.end(1, 0);
        listed("starts first", net, "0.0: 0 0 1, 0.0: 0 0 1 0, 0.0: 1 0 1, 0.0: 1 0 1 0");
    }

    private static void thenEnds() {
        PathLists net = Nets.pins(2);
        net.start(0, 0);
        net.end(1, 0);
        net.end(0, 0);
        net.end(1, 0);
        net.arc(0, 1, 0);
        net.end(1, 0);
        listed("ends by their numbers at each pin", net, "0.0: 0 1, 0.0: 0 0 0, 0.0: 0 0 2, 0.0: 0 0 3");
    }

    private static void endsByNumber() {
        PathLists net = Nets.pins(1);
        for (int end = 0; end < 30; end++) {
            net.end(0, 0);
        }
        net.start(0, 0);
        Check.same("run(40)", net.run(40), 30);
        for (int path = 0; path < 30; path++) {
            Check.same("the end of path " + path, net.at(path, 1), path);
        }
    }

    /** "all together stand in their order": not by groups. */
    private static void groupsDoNotCount() {
        PathLists net = Nets.pins(1);
        for (int end = 0; end < 4; end++) {
            net.end(0, end / 2);
            net.group(end, 7 - end);
        }
        net.start(0, 0);
        listed("ends of four groups", net, "0.0: 0 0, 0.0: 0 1, 1.0: 0 2, 1.0: 0 3");
    }

    /** Pins are not what paths of the same slack stand by. */
    private static void pinsDoNotCount() {
        PathLists net = Nets.pins(4);
        net.arc(3, 2, 1);
        net.arc(3, 0, 1);
        net.arc(3, 1, 1);
        net.start(3, 0);
        net.end(1, 0);
        net.end(0, 0);
        net.end(2, 0);
        listed("by arcs", net, "-1.0: 0 0 2, -1.0: 0 1 1, -1.0: 0 2 0");
    }
}
