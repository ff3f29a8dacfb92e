/** Nets that several tests begin with, and what they ask of a listed path. */
final class Nets {
    /** A call on the net that it is given; a boolean answers 1 or 0. */
    interface Asked {
        double of(PathLists net);
    }

    /** How many calls largest() makes. */
    static final int CALLS_OF_LARGEST = 60 + 150 + 30 + 30 + 26 + 50;

    private Nets() {
    }

    static PathLists pins(int count) {
        PathLists net = new PathLists();
        for (int i = 0; i < count; i++) {
            net.pin();
        }
        return net;
    }

    /**
     * Two ways from 0 to 3: arcs 0 (0 1, 2), 1 (1 3, 3) and arcs 2 (0 2, 1), 3 (2 3, 1.5). A start at 0 with 1, an end
     * at 3 that is required at 10: the slacks are 4 and 6.5.
     */
    static PathLists diamond() {
        PathLists net = pins(4);
        net.arc(0, 1, 2);
        net.arc(1, 3, 3);
        net.arc(0, 2, 1);
        net.arc(2, 3, 1.5);
        net.start(0, 1);
        net.end(3, 10);
        return net;
    }

    /**
     * As many pins, arcs, starts, ends and delays to take back as there can be: arcs from each pin to the next one, all
     * starts at the first pin, all ends at the last one and of all groups.
     */
    static PathLists largest() {
        PathLists net = pins(60);
        for (int arc = 0; arc < 150; arc++) {
            net.arc(arc % 59, arc % 59 + 1, 1);
        }
        for (int i = 0; i < 30; i++) {
            net.start(0, i);
            net.end(59, 0);
        }
        for (int end = 0; end < 30; end++) {
            if (end % 8 != 0) {
                net.group(end, end % 8);
            }
        }
        for (int i = 0; i < 50; i++) {
            net.whatIf(i % 7, 2 + i);
        }
        return net;
    }

    /** As many of all as there can be, too, but with short paths: all arcs lead from pin 0 to pin 1. */
    static PathLists full() {
        PathLists net = pins(60);
        for (int arc = 0; arc < 150; arc++) {
            net.arc(0, 1, arc % 3);
        }
        for (int i = 0; i < 30; i++) {
            net.start(i % 2, i % 4);
            net.end(1, 0);
        }
        for (int i = 0; i < 50; i++) {
            net.whatIf(3 * i, 2 + i);
        }
        net.into(1, 7);
        net.run(40);
        return net;
    }

    /**
     * A listed net with something of everything: the diamond with a way between its sides, two more starts and ends, a
     * block, two groups, a pin to go through, and two delays to take back.
     */
    static PathLists rich() {
        PathLists net = diamond();
        net.arc(1, 2, 0.5);
        net.start(1, 2);
        net.start(0, 0);
        net.end(2, 7);
        net.end(3, 12);
        net.group(2, 5);
        net.into(1, 3);
        net.into(2, 3);
        net.through(2, 4);
        net.whatIf(1, 6);
        net.whatIf(4, 2);
        net.run(3);
        return net;
    }

    /** A listed path as its slack and what stands in it: "4.0: 0 0 1 0". */
    static String path(PathLists net, int path) {
        StringBuilder text = new StringBuilder();
        text.append(net.slack(path)).append(':');
        try {
            for (int i = 0; i < 200; i++) {
                int number = net.at(path, i);
                text.append(' ').append(number);
            }
        } catch (IndexOutOfBoundsException e) {
            return text.toString();
        }
        return "endless";
    }

    static String paths(PathLists net, int count) {
        StringBuilder text = new StringBuilder();
        for (int path = 0; path < count; path++) {
            text.append(path == 0 ? "" : ", ").append(path(net, path));
        }
        return text.toString();
    }

    /** All that run(k) lists. */
    static String listed(PathLists net, int k) {
        return paths(net, net.run(k));
    }
}
