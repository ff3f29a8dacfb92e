/** Promise 10: group. */
final class GroupTest {
    private GroupTest() {
    }

    public static void main(String[] args) {
        PathLists net = Nets.diamond();
        net.end(3, 20);
        net.end(0, 30);
        Check.same("group(1, 7)", net.group(1, 7), 1);
        Check.same("group(2, 7)", net.group(2, 7), 2);
        Check.same("group(2, 7) once more", net.group(2, 7), 2);
        Check.same("group(0, 0): ends begin there", net.group(0, 0), 1);
        Check.same("group(2, 0)", net.group(2, 0), 2);
        Check.same("one of each group", Nets.listed(net, 1), "4.0: 0 0 1 0, 14.0: 0 0 1 1");
        Check.same("group(1, 7) with the group that it has", net.group(1, 7), 1);
        Check.same("slack(1) is still listed", net.slack(1), 14);
        Check.outOfBounds("group(3, 0)", () -> net.group(3, 0));
        Check.outOfBounds("group(-1, 8)", () -> net.group(-1, 8));
        Check.badArgument("group(0, 8)", () -> net.group(0, 8));
        Check.badArgument("group(0, -1)", () -> net.group(0, -1));
        Check.badArgument("group(0, MAX)", () -> net.group(0, Integer.MAX_VALUE));
        Check.same("slack(1): the calls that threw changed nothing", net.slack(1), 14);
        Check.same("group(1, 0)", net.group(1, 0), 3);
        Check.badState("slack(0): another group is a change", () -> net.slack(0));
        Check.same("one of the one group", Nets.listed(net, 1), "4.0: 0 0 1 0");
        howManyThen();
        firstAndLastGroup();
        ofNoEnds();
        Check.finish();
    }

    /** "how many ends are in that then": the end itself too, and not those that left it. */
    private static void howManyThen() {
        PathLists net = Nets.pins(1);
        for (int end = 0; end < 30; end++) {
            net.end(0, 0);
        }
        for (int end = 0; end < 30; end++) {
            Check.same("group(" + end + ", 4)", net.group(end, 4), end + 1);
        }
        for (int end = 0; end < 29; end++) {
            net.group(end, 6);
            Check.same("group(29, 4) when " + (end + 1) + " left", net.group(29, 4), 29 - end);
        }
        Check.same("group(29, 6)", net.group(29, 6), 30);
        Check.same("group(0, 4): alone again", net.group(0, 4), 1);
    }

    /** "a GROUP 0 .. 7" */
    private static void firstAndLastGroup() {
        PathLists net = Nets.pins(1);
        net.end(0, 0);
        for (int g = 7; g >= 0; g--) {
            Check.same("group(0, " + g + ")", net.group(0, g), 1);
        }
        Check.badArgument("group(0, 8)", () -> net.group(0, 8));
        Check.badArgument("group(0, -1)", () -> net.group(0, -1));
        Check.badArgument("group(0, MIN)", () -> net.group(0, Integer.MIN_VALUE));
        Check.same("end(0, 0)", net.end(0, 0), 1);
        Check.same("group(1, 0): the first is there still", net.group(1, 0), 2);
    }

    private static void ofNoEnds() {
        PathLists net = Nets.pins(1);
        net.start(0, 0);
        Check.outOfBounds("group(0, 0) without ends", () -> net.group(0, 0));
        Check.outOfBounds("group(0, 8) without ends", () -> net.group(0, 8));
        net.end(0, 0);
        Check.same("group(0, 0)", net.group(0, 0), 1);
        Check.outOfBounds("group(1, 0)", () -> net.group(1, 0));
    }
}
