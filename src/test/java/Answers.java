/** All that a net answers, as one text: what was called on two nets made the same their texts tell apart. */
final class Answers {
    private static final int NONE = PathLists.NONE;
    private static final int MOST_BACKS = 60;

    private Answers() {
    }

    /** The text of a net, which is used up by it: delays are taken back, pins to go through are taken away. */
    static String of(PathLists net) {
        StringBuilder text = new StringBuilder();
        text.append("listed ").append(listing(net));
        text.append("\nblocks ").append(blocks(net));
        text.append("\ngroups ").append(groups(net));
        text.append("\nrun ").append(net.run(40)).append(' ').append(listing(net));
        for (int i = 0; i < MOST_BACKS && net.back(); i++) {
            text.append("\nback ").append(net.run(40)).append(' ').append(listing(net));
        }
        for (int order = 9; order >= 0; order--) {
            text.append("\nnone of ").append(order).append(' ').append(net.through(NONE, order));
            text.append(' ').append(net.run(40)).append(' ').append(listing(net));
        }
        text.append("\npin ").append(Check.outcome(() -> net.pin()));
        text.append("\narc ").append(Check.outcome(() -> net.arc(0, 1, 1)));
        text.append("\nend ").append(Check.outcome(() -> net.end(0, 1)));
        text.append("\nstart ").append(Check.outcome(() -> net.start(0, 1)));
        return text.toString();
    }

    /** What slack, at and budget say of all listed paths, and of one place or path too far. */
    private static String listing(PathLists net) {
        StringBuilder text = new StringBuilder();
        for (int path = 0; path <= 320; path++) {
            int n = path;
            String slack = Check.outcome(() -> net.slack(n));
            text.append("; ").append(slack).append(' ').append(Check.outcome(() -> net.budget(0, n)));
            if (slack.startsWith("I")) {
                return text.append(' ').append(Check.outcome(() -> net.at(n, 0))).toString();
            }
            String place = "";
            for (int k = 0; k <= 70 && !place.startsWith("I"); k++) {
                int i = k;
                place = Check.outcome(() -> net.at(n, i));
                text.append(' ').append(place);
            }
        }
        return text.append(" without an end").toString();
    }

    private static String blocks(PathLists net) {
        StringBuilder text = new StringBuilder();
        for (int block = 0; block < 8; block++) {
            text.append("; ").append(net.model(block));
            for (int from = 0; from < 60; from++) {
                for (int to = 0; to < 60; to++) {
                    text.append(' ').append(reduced(net, block, from, to));
                }
            }
        }
        return text.toString();
    }

    private static String reduced(PathLists net, int block, int from, int to) {
        String answer = Check.outcome(() -> net.reduced(block, from, to));
        return answer.equals("-1.0") ? "-" : answer.startsWith("I") ? "x" : answer;
    }

    /** Each end goes to every group, last to 7: the counts tell what groups it and the others were of. */
    private static String groups(PathLists net) {
        StringBuilder text = new StringBuilder();
        for (int n = 0; n < 30; n++) {
            int end = n;
            for (int k = 0; k < 8; k++) {
                int g = k;
                text.append(' ').append(Check.outcome(() -> net.group(end, g)));
            }
        }
        return text.toString();
    }
}
