/** Promise 14: budget. */
final class BudgetTest {
    private BudgetTest() {
    }

    public static void main(String[] args) {
        PathLists net = Nets.diamond();
        Check.badState("budget(0, 0) without run", () -> net.budget(0, 0));
        Check.badState("budget(-1, -1) without run", () -> net.budget(-1, -1));
        net.into(1, 0);
        net.run(2);
        Check.same("budget(0, 0)", net.budget(0, 0), 4.0 * 2 / 5);
        Check.same("budget(0, 1): it does not lead into the block", net.budget(0, 1), 0);
        net.into(0, 0);
        Check.same("budget(0, 0): no arc leads to the start's pin", net.budget(0, 0), 4.0 * 2 / 5);
        net.into(3, 0);
        Check.same("budget(0, 0) of all arcs", net.budget(0, 0), 4.0 * 5 / 5);
        Check.same("budget(0, 1)", net.budget(0, 1), 6.5 * 1.5 / 2.5);
        net.into(3, 7);
        Check.same("budget(7, 0)", net.budget(7, 0), 4.0 * 3 / 5);
        Check.same("budget(5, 0) of an empty block", net.budget(5, 0), 0);
        int[] noBlocks = {-1, 8, Integer.MIN_VALUE, Integer.MAX_VALUE};
        for (int block : noBlocks) {
            Check.outOfBounds("budget(" + block + ", 0)", () -> net.budget(block, 0));
        }
        int[] noPaths = {-1, 2, Integer.MIN_VALUE, Integer.MAX_VALUE};
        for (int path : noPaths) {
            Check.outOfBounds("budget(0, " + path + ")", () -> net.budget(0, path));
        }
        net.whatIf(0, 20);
        Check.badState("budget(0, 0) after a change", () -> net.budget(0, 0));
        net.run(2);
        Check.same("budget(0, 0) of a slack below 0", net.budget(0, 0), -14.0 * 20 / 23);
        withoutDelay();
        timesFirst();
        arcsThatLeadToTheBlock();
        inThisOrder();
        leastSum();
        slackOfZero();
        longestPath();
        delaysAsTheyAre();
        firstAndLastNumbers();
        Check.finish();
    }

    private static void withoutDelay() {
        PathLists net = Nets.pins(2);
        net.arc(0, 1, 0);
        net.start(0, 0);
        net.start(1, 0);
        net.end(1, 8);
        net.into(0, 1);
        net.into(1, 1);
        net.run(2);
        Check.same("budget(1, 0) of delays 0", net.budget(1, 0), 0);
        Check.same("budget(1, 1) of no arcs", net.budget(1, 1), 0);
    }

    /** A slack and delays for which dividing first would answer another double. */
    private static void timesFirst() {
        PathLists net = Nets.pins(3);
        net.arc(0, 1, 6);
        net.arc(1, 2, 4);
        net.start(0, 0);
        net.end(2, 13);
        net.into(1, 0);
        net.run(1);
        Check.same("budget(0, 0)", net.budget(0, 0), 3.0 * 6.0 / 10.0);
        Check.same("3 * 6 / 10 is not 3 * (6 / 10)", 3.0 * 6.0 / 10.0 != 3.0 * (6.0 / 10.0), true);
    }

    /** "those of its arcs that lead to a pin in the block": from outside or inside, not those that lead out of it. */
    private static void arcsThatLeadToTheBlock() {
        PathLists net = Nets.pins(5);
        for (int pin = 0; pin < 4; pin++) {
            net.arc(pin, pin + 1, 1 << pin);
        }
        net.start(0, 0);
        net.end(4, 30);
        net.run(1);
        Check.same("slack(0)", net.slack(0), 15);
        for (int set = 0; set < 32; set++) {
            for (int pin = 0; pin < 5; pin++) {
                net.into(pin, (set >> pin & 1) == 1 ? 3 : 4);
            }
            Check.same("budget(3, 0) of pins " + set, net.budget(3, 0), set >> 1);
            Check.same("budget(4, 0) of all others", net.budget(4, 0), 15 - (set >> 1));
        }
    }

    /** "divided .. (as doubles, in this order)": sums so great that every other order answers another double. */
    private static void inThisOrder() {
        PathLists net = Nets.pins(60);
        double in = 0;
        double all = 0;
        for (int pin = 0; pin < 59; pin++) {
            double delay = 1048575.875 - 3.625 * pin;
            net.arc(pin, pin + 1, delay);
            net.into(pin + 1, pin % 4 == 0 ? 6 : 5);
            all += delay;
            in += pin % 4 == 0 ? delay : 0;
        }
        net.start(0, 1048574.125);
        net.end(59, -1048570.25);
        net.run(1);
        double slack = -1048570.25 - 1048574.125 - all;
        Check.same("slack(0)", net.slack(0), slack);
        Check.same("budget(6, 0)", net.budget(6, 0), slack * in / all);
        Check.same("slack * (in / all) is another double", slack * in / all != slack * (in / all), true);
        Check.same("slack / all * in is another double", slack * in / all != slack / all * in, true);
    }

    /** "0 if the sum of all its arcs' delays is 0": a sum of 1/8 is none. */
    private static void leastSum() {
        PathLists net = Nets.pins(3);
        net.arc(0, 1, 0.125);
        net.arc(1, 2, 0);
        net.start(0, 10);
        net.end(2, 3);
        net.into(1, 0);
        net.into(2, 1);
        net.run(1);
        Check.same("budget(0, 0) of a sum of 1/8", net.budget(0, 0), -7.125);
        Check.same("budget(1, 0) of an arc of delay 0", net.budget(1, 0), 0);
        net.whatIf(0, 0);
        net.run(1);
        Check.same("slack(0)", net.slack(0), -7);
        Check.same("budget(0, 0) of a sum of 0", net.budget(0, 0), 0);
        Check.same("budget(1, 0) of a sum of 0", net.budget(1, 0), 0);
    }

    private static void slackOfZero() {
        PathLists net = Nets.pins(2);
        net.arc(0, 1, 3);
        net.start(0, 0);
        net.end(1, 3);
        net.into(1, 0);
        net.run(1);
        Check.same("budget(0, 0) of a slack of 0", net.budget(0, 0), 0);
    }

    private static void longestPath() {
        PathLists net = Nets.pins(60);
        for (int pin = 0; pin < 59; pin++) {
            net.arc(pin, pin + 1, 1048576);
        }
        net.start(0, 1048576);
        net.end(59, -1048576);
        net.into(59, 2);
        net.into(1, 2);
        net.run(1);
        Check.same("budget(2, 0) of the first and the last of 59 arcs", net.budget(2, 0),
            -61 * 1048576.0 * (2 * 1048576.0) / (59 * 1048576.0));
    }

    /** The delays are those of now: other ones for now, too. */
    private static void delaysAsTheyAre() {
        PathLists net = Nets.diamond();
        net.into(1, 0);
        net.whatIf(0, 3);
        net.run(1);
        Check.same("budget(0, 0) with another delay", net.budget(0, 0), 3.0 * 3 / 6);
        net.back();
        net.run(1);
        Check.same("budget(0, 0) as it was", net.budget(0, 0), 4.0 * 2 / 5);
    }

    private static void firstAndLastNumbers() {
        PathLists net = Nets.largest();
        for (int pin = 0; pin < 60; pin++) {
            net.into(pin, 7);
        }
        net.run(40);
        Check.same("budget(7, 319) of all arcs", net.budget(7, 319), net.slack(319));
        Check.same("budget(0, 319) of none", net.budget(0, 319), 0);
        Check.outOfBounds("budget(7, 320)", () -> net.budget(7, 320));
        Check.outOfBounds("budget(8, 319)", () -> net.budget(8, 319));
    }
}
