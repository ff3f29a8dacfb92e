/** Promises 7 to 9: run, slack, at. */
final class RunTest {
    private RunTest() {
    }

    public static void main(String[] args) {
        promise7Wrong();
        promise7Counts();
        promise7Groups();
        promise7Order();
        promise7Most();
        promise7ManyWays();
        promise8();
        promise9();
        changes();
        promise7LeastAndMost();
        promise7FewerThanThat();
        promise7CutAmongTheSame();
        promise9Places();
        Check.finish();
    }

    private static void promise7Wrong() {
        PathLists net = Nets.diamond();
        net.run(1);
        int[] noCounts = {0, -1, 41, Integer.MIN_VALUE, Integer.MAX_VALUE};
        for (int k : noCounts) {
            Check.badArgument("run(" + k + ")", () -> net.run(k));
        }
        Check.same("the list: the calls that threw changed nothing", Nets.paths(net, 1), "4.0: 0 0 1 0");
        Check.outOfBounds("slack(1) of run(1)", () -> net.slack(1));
    }

    private static void promise7Counts() {
        PathLists net = Nets.diamond();
        Check.same("run(1)", net.run(1), 1);
        Check.same("run(2)", net.run(2), 2);
        Check.same("run(40)", net.run(40), 2);
        Check.same("run(1) after run(40)", net.run(1), 1);
        PathLists without = Nets.pins(2);
        without.arc(0, 1, 1);
        without.start(0, 0);
        Check.same("run(1) without ends", without.run(1), 0);
        without.end(0, 5);
        Check.same("run(1) of a path without arcs", Nets.listed(without, 1), "5.0: 0 0");
    }

    private static void promise7Groups() {
        PathLists net = Nets.diamond();
        net.end(3, 9);
        net.end(1, 100);
        net.end(3, 11);
        net.group(1, 3);
        net.group(2, 3);
        net.group(3, 7);
        Check.same("run(1) of three groups", Nets.listed(net, 1), "3.0: 0 0 1 1, 4.0: 0 0 1 0, 5.0: 0 0 1 3");
        Check.same("run(2) of three groups", Nets.listed(net, 2),
            "3.0: 0 0 1 1, 4.0: 0 0 1 0, 5.0: 0 0 1 3, 5.5: 0 2 3 1, 6.5: 0 2 3 0, 7.5: 0 2 3 3");
        Check.same("run(3) of three groups", Nets.listed(net, 3),
            "3.0: 0 0 1 1, 4.0: 0 0 1 0, 5.0: 0 0 1 3, 5.5: 0 2 3 1, 6.5: 0 2 3 0, 7.5: 0 2 3 3, 97.0: 0 0 2");
    }

    private static void promise7Order() {
        PathLists net = Nets.pins(4);
        net.end(1, 8);
        net.end(3, 8);
        net.end(1, 8);
        net.arc(1, 3, 0);
        net.arc(0, 1, 2);
        net.arc(0, 3, 2);
        net.arc(0, 1, 2);
        net.start(0, 0);
        net.start(1, 2);
        net.start(0, 0);
        String from0 = "6.0: 0 1 0, 6.0: 0 1 2, 6.0: 0 1 0 1, 6.0: 0 2 1, 6.0: 0 3 0, 6.0: 0 3 2, 6.0: 0 3 0 1";
        String from1 = "6.0: 1 0, 6.0: 1 2, 6.0: 1 0 1";
        String from2 = from0.replace(": 0 ", ": 2 ");
        Check.same("paths of one slack", Nets.listed(net, 40), from0 + ", " + from1 + ", " + from2);
        Check.same("the first of one slack", Nets.listed(net, 5), from0.substring(0, from0.indexOf(", 6.0: 0 3 2")));
        net.group(1, 1);
        Check.same("all groups together", Nets.listed(net, 40), from0 + ", " + from1 + ", " + from2);
        Check.same("two of each group", Nets.listed(net, 2), "6.0: 0 1 0, 6.0: 0 1 2, 6.0: 0 1 0 1, 6.0: 0 2 1");
        net.group(1, 0);
        net.end(1, 8);
        Check.same("an end that came after the arcs", Nets.listed(net, 3), "6.0: 0 1 0, 6.0: 0 1 2, 6.0: 0 1 3");
        net.start(3, 3);
        Check.same("a worse one goes before all", Nets.listed(net, 1), "5.0: 3 1");
    }

    private static void promise7Most() {
        PathLists net = Nets.pins(2);
        for (int i = 0; i < 150; i++) {
            net.arc(0, 1, (149 - i) * 0.125);
        }
        net.start(0, 0);
        for (int end = 0; end < 30; end++) {
            net.end(1, end % 8);
            net.group(end, end % 8);
        }
        Check.same("run(40) of eight groups", net.run(40), 320);
        Check.same("the first path", Nets.path(net, 0), "-18.625: 0 0 0");
        // Group 7 has the ends 7, 15 and 23: its fortieth path is over the fourteenth arc, to the first of them.
        Check.same("the last path", Nets.path(net, 319), "-10.0: 0 13 7");
        Check.outOfBounds("slack(320)", () -> net.slack(320));
        Check.same("run(1) of eight groups", net.run(1), 8);
        Check.same("the eighth path", Nets.path(net, 7), "-11.625: 0 0 7");
    }

    /** 2 to the power of 59 paths of one slack: they count up in twos from the last arcs on. */
    private static void promise7ManyWays() {
        PathLists net = Nets.pins(60);
        for (int pin = 0; pin < 59; pin++) {
            net.arc(59 - pin, 58 - pin, 1048576);
            net.arc(59 - pin, 58 - pin, 1048576);
        }
        net.start(59, 1048576);
        net.end(0, -1048576);
        Check.same("run(40)", net.run(40), 40);
        for (int path = 0; path < 40; path++) {
            StringBuilder due = new StringBuilder("-6.3963136E7: 0");
            for (int arc = 0; arc < 59; arc++) {
                int bit = arc < 50 ? 0 : path >> 58 - arc & 1;
                due.append(' ').append(2 * arc + bit);
            }
            Check.same("path " + path, Nets.path(net, path), due.append(" 0").toString());
        }
    }

    private static void promise8() {
        PathLists net = Nets.diamond();
        Check.badState("slack(0) without run", () -> net.slack(0));
        Check.badState("slack(-1) without run", () -> net.slack(-1));
        net.run(2);
        Check.same("slack(0)", net.slack(0), 4);
        Check.same("slack(1)", net.slack(1), 6.5);
        int[] noPaths = {-1, 2, 320, Integer.MIN_VALUE, Integer.MAX_VALUE};
        for (int path : noPaths) {
            Check.outOfBounds("slack(" + path + ")", () -> net.slack(path));
        }
    }

    private static void promise9() {
        PathLists net = Nets.diamond();
        Check.badState("at(0, 0) without run", () -> net.at(0, 0));
        Check.badState("at(-1, -1) without run", () -> net.at(-1, -1));
        net.run(2);
        Check.same("at(1, 0)", net.at(1, 0), 0);
        Check.same("at(1, 1)", net.at(1, 1), 2);
        Check.same("at(1, 2)", net.at(1, 2), 3);
        Check.same("at(1, 3)", net.at(1, 3), 0);
        int[] noPlaces = {-1, 4, 5, 60, Integer.MIN_VALUE, Integer.MAX_VALUE};
        for (int place : noPlaces) {
            Check.outOfBounds("at(0, " + place + ")", () -> net.at(0, place));
        }
        int[] noPaths = {-1, 2, 320, Integer.MIN_VALUE, Integer.MAX_VALUE};
        for (int path : noPaths) {
            Check.outOfBounds("at(" + path + ", 0)", () -> net.at(path, 0));
        }
        net.start(3, 100);
        net.end(3, 99);
        net.run(2);
        Check.same("at of a path without arcs", Nets.paths(net, 2), "-90.0: 1 0, -1.0: 1 1");
    }

    private static void changes() {
        PathLists net = Nets.diamond();
        net.run(1);
        net.into(1, 3);
        Check.same("slack(0) after into", net.slack(0), 4);
        net.model(3);
        net.reduced(3, 1, 1);
        net.budget(3, 0);
        net.slack(0);
        net.group(0, 0);
        net.back();
        Check.same("the list after calls that change nothing", Nets.paths(net, 1), "4.0: 0 0 1 0");
        net.arc(0, 3, 0);
        Check.badState("at(0, 0) after arc", () -> net.at(0, 0));
        Check.badState("at(9, 9) after arc", () -> net.at(9, 9));
        Check.badState("slack(0) after arc", () -> net.slack(0));
        net.run(1);
        Check.same("slack(0) after run", net.slack(0), 4);
    }

    /** "k is not 1 .. 40": 41 paths of which 1, 39 and 40 are listed. */
    private static void promise7LeastAndMost() {
        PathLists net = Nets.pins(2);
        for (int arc = 0; arc < 41; arc++) {
            net.arc(0, 1, arc);
        }
        net.start(0, 0);
        net.end(1, 40);
        for (int k : new int[] {1, 2, 39, 40}) {
            Check.same("run(" + k + ") of 41 paths", net.run(k), k);
            Check.same("slack(0) of run(" + k + ")", net.slack(0), 0);
            Check.same("slack(" + (k - 1) + ") of run(" + k + ")", net.slack(k - 1), k - 1);
            Check.outOfBounds("slack(" + k + ") of run(" + k + ")", () -> net.slack(k));
        }
        Check.badArgument("run(0)", () -> net.run(0));
        Check.badArgument("run(41)", () -> net.run(41));
        Check.same("slack(39) of run(40): it is still listed", net.slack(39), 39);
    }

    /** "The k first paths of each group": some groups have more than k, some have k, fewer, or none. */
    private static void promise7FewerThanThat() {
        PathLists net = Nets.pins(5);
        int[] ways = {4, 3, 2, 1};
        for (int end = 0; end < 4; end++) {
            for (int way = 0; way < ways[end]; way++) {
                net.arc(4, end, way);
            }
            net.end(end, 10 * end);
            net.group(end, 2 * end);
        }
        net.start(4, 0);
        int[] due = {4, 7, 9, 10, 10};
        for (int k = 1; k <= 5; k++) {
            Check.same("run(" + k + ") of groups of 4, 3, 2 and 1 paths", net.run(k), due[k - 1]);
        }
        Check.same("run(40) of groups of 4, 3, 2 and 1 paths", net.run(40), 10);
        net.run(3);
        Check.same("slack(0) of run(3): group 0", net.slack(0), -3);
        Check.same("slack(2) of run(3): the last of group 0", net.slack(2), -1);
        Check.same("slack(3) of run(3): group 2", net.slack(3), 8);
        Check.same("slack(8) of run(3): group 6", net.slack(8), 30);
    }

    /** Of paths of the same slack those are listed that stand first. */
    private static void promise7CutAmongTheSame() {
        PathLists net = Nets.pins(3);
        net.end(2, 5);
        net.end(2, 5);
        net.start(0, 0);
        net.start(1, 2);
        net.arc(1, 2, 3);
        net.arc(0, 1, 2);
        net.arc(1, 2, 3);
        String[] same = {"0.0: 0 1 0 0", "0.0: 0 1 0 1", "0.0: 0 1 2 0", "0.0: 0 1 2 1", "0.0: 1 0 0", "0.0: 1 0 1",
            "0.0: 1 2 0", "0.0: 1 2 1"};
        StringBuilder due = new StringBuilder();
        for (int k = 1; k <= 8; k++) {
            due.append(k == 1 ? "" : ", ").append(same[k - 1]);
            Check.same("run(" + k + ") of eight of one slack", Nets.listed(net, k), due.toString());
        }
    }

    /** "i = 0 its start, then its arcs, last its end .. there is no such place": the numbers tell all three apart. */
    private static void promise9Places() {
        PathLists net = Nets.pins(3);
        net.arc(1, 0, 0);
        net.arc(0, 2, 0);
        for (int i = 0; i < 4; i++) {
            net.start(1, -i);
        }
        for (int i = 0; i < 7; i++) {
            net.end(2, 6 - i);
        }
        net.start(1, 9);
        net.run(1);
        Check.same("at(0, 0): the start", net.at(0, 0), 4);
        Check.same("at(0, 1): the first arc", net.at(0, 1), 0);
        Check.same("at(0, 2): the last arc", net.at(0, 2), 1);
        Check.same("at(0, 3): the end", net.at(0, 3), 6);
        Check.outOfBounds("at(0, 4): behind the end", () -> net.at(0, 4));
        Check.outOfBounds("at(0, -1): before the start", () -> net.at(0, -1));
        Check.outOfBounds("at(1, 0): behind the last path", () -> net.at(1, 0));
        Check.outOfBounds("at(-1, 0): before the first path", () -> net.at(-1, 0));
    }
}
