/** Promise 10: group. */
final class GroupTest {
    private GroupTest() {
    }

    public static void main(String[] args) {
        PathLists net = Nets.diamond();
        net.end(3, 20);
        net.end(0, 30);
        Check.same("group(1, 7)", net.group(1, 7), 1);
        Check.same("group(2, 7)", net.group(2, 7), 2);
        Check.same("group(2, 7) once more", net.group(2, 7), 2);
        Check.same("group(0, 0): ends begin there", net.group(0, 0), 1);
        Check.same("group(2, 0)", net.group(2, 0), 2);
        Check.same("one of each group", Nets.listed(net, 1), "4.0: 0 0 1 0, 14.0: 0 0 1 1");
        Check.same("group(1, 7) with the group that it has", net.group(1, 7), 1);
        Check.same("slack(1) is still listed", net.slack(1), 14);
        Check.outOfBounds("group(3, 0)", () -> net.group(3, 0));
        Check.outOfBounds("group(-1, 8)", () -> net.group(-1, 8));
        Check.badArgument("group(0, 8)", () -> net.group(0, 8));
        Check.badArgument("group(0, -1)", () -> net.group(0, -1));
        Check.badArgument("group(0, MAX)", () -> net.group(0, Integer.MAX_VALUE));
        Check.same("slack(1): the calls that threw changed nothing", net.slack(1), 14);
        Check.same("group(1, 0)", net.group(1, 0), 3);
        Check.badState("slack(0): another group is a change", () -> net.slack(0));
        Check.same("one of the one group", Nets.listed(net, 1), "4.0: 0 0 1 0");
        Check.finish();
    }
}
