/** Promise 14: budget. */
final class BudgetTest {
    private BudgetTest() {
    }

    public static void main(String[] args) {
        PathLists net = Nets.diamond();
        Check.badState("budget(0, 0) without run", () -> net.budget(0, 0));
        Check.badState("budget(-1, -1) without run", () -> net.budget(-1, -1));
        net.into(1, 0);
        net.run(2);
        Check.same("budget(0, 0)", net.budget(0, 0), 4.0 * 2 / 5);
        Check.same("budget(0, 1): it does not lead into the block", net.budget(0, 1), 0);
        net.into(0, 0);
        Check.same("budget(0, 0): no arc leads to the start's pin", net.budget(0, 0), 4.0 * 2 / 5);
        net.into(3, 0);
        Check.same("budget(0, 0) of all arcs", net.budget(0, 0), 4.0 * 5 / 5);
        Check.same("budget(0, 1)", net.budget(0, 1), 6.5 * 1.5 / 2.5);
        net.into(3, 7);
        Check.same("budget(7, 0)", net.budget(7, 0), 4.0 * 3 / 5);
        Check.same("budget(5, 0) of an empty block", net.budget(5, 0), 0);
        int[] noBlocks = {-1, 8, Integer.MIN_VALUE, Integer.MAX_VALUE};
        for (int block : noBlocks) {
            Check.outOfBounds("budget(" + block + ", 0)", () -> net.budget(block, 0));
        }
        int[] noPaths = {-1, 2, Integer.MIN_VALUE, Integer.MAX_VALUE};
        for (int path : noPaths) {
            Check.outOfBounds("budget(0, " + path + ")", () -> net.budget(0, path));
        }
        net.whatIf(0, 20);
        Check.badState("budget(0, 0) after a change", () -> net.budget(0, 0));
        net.run(2);
        Check.same("budget(0, 0) of a slack below 0", net.budget(0, 0), -14.0 * 20 / 23);
        withoutDelay();
        timesFirst();
        Check.finish();
    }

    private static void withoutDelay() {
        PathLists net = Nets.pins(2);
        net.arc(0, 1, 0);
        net.start(0, 0);
        net.start(1, 0);
        net.end(1, 8);
        net.into(0, 1);
        net.into(1, 1);
        net.run(2);
        Check.same("budget(1, 0) of delays 0", net.budget(1, 0), 0);
        Check.same("budget(1, 1) of no arcs", net.budget(1, 1), 0);
    }

    /** A slack and delays for which dividing first would answer another double. */
    private static void timesFirst() {
        PathLists net = Nets.pins(3);
        net.arc(0, 1, 6);
        net.arc(1, 2, 4);
        net.start(0, 0);
        net.end(2, 13);
        net.into(1, 0);
        net.run(1);
        Check.same("budget(0, 0)", net.budget(0, 0), 3.0 * 6.0 / 10.0);
        Check.same("3 * 6 / 10 is not 3 * (6 / 10)", 3.0 * 6.0 / 10.0 != 3.0 * (6.0 / 10.0), true);
    }
}
