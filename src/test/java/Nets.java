/** Nets that several tests begin with, and what they ask of a listed path. */
final class Nets {
    private Nets() {
    }

    static PathLists pins(int count) {
        PathLists net = new PathLists();
        for (int i = 0; i < count; i++) {
            net.pin();
        }
        return net;
    }

    /**
     * Two ways from 0 to 3: arcs 0 (0 1, 2), 1 (1 3, 3) and arcs 2 (0 2, 1), 3 (2 3, 1.5). A start at 0 with 1, an end
     * at 3 that is required at 10: the slacks are 4 and 6.5.
     */
    static PathLists diamond() {
        PathLists net = pins(4);
        net.arc(0, 1, 2);
        net.arc(1, 3, 3);
        net.arc(0, 2, 1);
        net.arc(2, 3, 1.5);
        net.start(0, 1);
        net.end(3, 10);
        return net;
    }

    /** A listed path as its slack and what stands in it: "4.0: 0 0 1 0". */
    static String path(PathLists net, int path) {
        StringBuilder text = new StringBuilder();
        text.append(net.slack(path)).append(':');
        try {
            for (int i = 0; i < 200; i++) {
                int number = net.at(path, i);
                text.append(' ').append(number);
            }
        } catch (IndexOutOfBoundsException e) {
            return text.toString();
        }
        return "endless";
    }

    static String paths(PathLists net, int count) {
        StringBuilder text = new StringBuilder();
        for (int path = 0; path < count; path++) {
            text.append(path == 0 ? "" : ", ").append(path(net, path));
        }
        return text.toString();
    }

    /** All that run(k) lists. */
    static String listed(PathLists net, int k) {
        return paths(net, net.run(k));
    }
}
