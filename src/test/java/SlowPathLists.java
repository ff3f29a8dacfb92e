import java.util.ArrayList;
import java.util.List;

/** The document's words done in the slowest way, every path by itself: RandomRunsTest compares the program with it. */
final class SlowPathLists {
    private static final class Path {
        private final int start;
        private final List<Integer> arcs;
        private final int end;
        private final double slack;

        private Path(int start, List<Integer> arcs, int end, double slack) {
            this.start = start;
            this.arcs = arcs;
            this.end = end;
            this.slack = slack;
        }
    }

    private int pins = 0;
    private final List<int[]> arcs = new ArrayList<>();
    private final List<Double> delays = new ArrayList<>();
    private final List<Integer> starts = new ArrayList<>();
    private final List<Double> arrivals = new ArrayList<>();
    private final List<Integer> ends = new ArrayList<>();
    private final List<Double> required = new ArrayList<>();
    private final List<Integer> groups = new ArrayList<>();
    private final List<Integer> blocks = new ArrayList<>();
    private final int[] throughPins = {-1, -1, -1, -1, -1, -1, -1, -1, -1, -1};
    private final List<double[]> changes = new ArrayList<>();
    private List<Path> found = new ArrayList<>();
    private List<Path> listed = null;

    double pin() {
        if (pins == 60) {
            throw new IllegalStateException();
        }
        listed = null;
        blocks.add(-1);
        return pins++;
    }

    double arc(int from, int to, double delay) {
        bounds(from, 0, pins);
        bounds(to, 0, pins);
        if (arcs.size() == 150) {
            throw new IllegalStateException();
        }
        if (!time(delay) || delay < 0 || leads(to, from)) {
            throw new IllegalArgumentException();
        }
        listed = null;
        arcs.add(new int[] {from, to});
        delays.add(delay);
        return arcs.size() - 1;
    }

    double end(int pin, double time) {
        bounds(pin, 0, pins);
        if (ends.size() == 30) {
            throw new IllegalStateException();
        }
        if (!time(time)) {
            throw new IllegalArgumentException();
        }
        listed = null;
        ends.add(pin);
        required.add(time);
        groups.add(0);
        return ends.size() - 1;
    }

    double start(int pin, double time) {
        bounds(pin, 0, pins);
        if (starts.size() == 30) {
            throw new IllegalStateException();
        }
        if (!time(time)) {
            throw new IllegalArgumentException();
        }
        listed = null;
        starts.add(pin);
        arrivals.add(time);
        return starts.size() - 1;
    }

    double through(int pin, int order) {
        bounds(pin, -1, pins);
        if (order < 0 || order > 9) {
            throw new IllegalArgumentException();
        }
        boolean other = throughPins[order] != pin;
        throughPins[order] = pin;
        listed = other ? null : listed;
        return other ? 1 : 0;
    }

    double run(int k) {
        if (k < 1 || k > 40) {
            throw new IllegalArgumentException();
        }
        found = new ArrayList<>();
        for (int start = 0; start < starts.size(); start++) {
            List<Integer> way = new ArrayList<>();
            follow(start, starts.get(start), way, arrivals.get(start));
        }
        found.sort(SlowPathLists::compare);
        int[] count = new int[8];
        listed = new ArrayList<>();
        for (Path path : found) {
            if (count[groups.get(path.end)]++ < k) {
                listed.add(path);
            }
        }
        return listed.size();
    }

    double slack(int path) {
        return listed(path).slack;
    }

    double at(int path, int i) {
        Path there = listed(path);
        bounds(i, 0, there.arcs.size() + 2);
        return i == 0 ? there.start : i <= there.arcs.size() ? there.arcs.get(i - 1) : there.end;
    }

    double group(int end, int g) {
        bounds(end, 0, ends.size());
        if (g < 0 || g > 7) {
            throw new IllegalArgumentException();
        }
        listed = groups.get(end) == g ? listed : null;
        groups.set(end, g);
        return groups.stream().filter(group -> group == g).count();
    }

    double model(int block) {
        bounds(block, 0, 8);
        int count = 0;
        for (int from = 0; from < pins; from++) {
            for (int to = 0; to < pins; to++) {
                count += reduced(block, from, to) >= 0 ? 1 : 0;
            }
        }
        return count;
    }

    double into(int pin, int block) {
        bounds(pin, 0, pins);
        bounds(block, -1, 8);
        return blocks.set(pin, block) == block ? 0 : 1;
    }

    double reduced(int block, int from, int to) {
        bounds(block, 0, 8);
        bounds(from, 0, pins);
        bounds(to, 0, pins);
        boolean input = starts.contains(from);
        boolean output = ends.contains(to);
        for (int[] arc : arcs) {
            input |= arc[1] == from && blocks.get(arc[0]) != block;
            output |= arc[0] == to && blocks.get(arc[1]) != block;
        }
        boolean inside = blocks.get(from) == block && blocks.get(to) == block;
        return input && output && inside ? greatest(from, to, block) : -1;
    }

    double budget(int block, int k) {
        if (listed == null) {
            throw new IllegalStateException();
        }
        bounds(block, 0, 8);
        Path path = listed(k);
        double all = 0;
        double into = 0;
        for (int arc : path.arcs) {
            all += delays.get(arc);
            into += blocks.get(arcs.get(arc)[1]) == block ? delays.get(arc) : 0;
        }
        return all == 0 ? 0 : path.slack * into / all;
    }

    double whatIf(int arc, double delay) {
        bounds(arc, 0, arcs.size());
        if (changes.size() == 50) {
            throw new IllegalStateException();
        }
        if (!time(delay) || delay < 0) {
            throw new IllegalArgumentException();
        }
        double before = delays.get(arc);
        if (before == delay) {
            return 0;
        }
        changes.add(new double[] {arc, before});
        delays.set(arc, delay);
        listed = null;
        return 1;
    }

    double back() {
        if (changes.isEmpty()) {
            return 0;
        }
        double[] latest = changes.remove(changes.size() - 1);
        delays.set((int) latest[0], latest[1]);
        listed = null;
        return 1;
    }

    private static void bounds(int index, int lowest, int size) {
        if (index < lowest || index >= size) {
            throw new IndexOutOfBoundsException();
        }
    }

    private static boolean time(double time) {
        return Math.abs(time) <= 1048576 && Math.rint(time * 8) == time * 8;
    }

    private Path listed(int path) {
        if (listed == null) {
            throw new IllegalStateException();
        }
        bounds(path, 0, listed.size());
        return listed.get(path);
    }

    private boolean leads(int from, int to) {
        boolean found = from == to;
        for (int[] arc : arcs) {
            found = found || arc[0] == from && leads(arc[1], to);
        }
        return found;
    }

    private double greatest(int from, int to, int block) {
        double most = from == to ? 0 : -1;
        for (int arc = 0; arc < arcs.size(); arc++) {
            int head = arcs.get(arc)[1];
            if (arcs.get(arc)[0] == from && blocks.get(head) == block) {
                double rest = greatest(head, to, block);
                most = rest < 0 ? most : Math.max(most, rest + delays.get(arc));
            }
        }
        return most;
    }

    private void follow(int start, int pin, List<Integer> way, double time) {
        for (int end = 0; end < ends.size(); end++) {
            if (ends.get(end) == pin && goesThrough(start, way)) {
                found.add(new Path(start, new ArrayList<>(way), end, required.get(end) - time));
            }
        }
        for (int arc = 0; arc < arcs.size(); arc++) {
            if (arcs.get(arc)[0] == pin) {
                way.add(arc);
                follow(start, arcs.get(arc)[1], way, time + delays.get(arc));
                way.remove(way.size() - 1);
            }
        }
    }

    private boolean goesThrough(int start, List<Integer> way) {
        List<Integer> there = new ArrayList<>();
        there.add(starts.get(start));
        for (int arc : way) {
            there.add(arcs.get(arc)[1]);
        }
        int i = 0;
        for (int pin : throughPins) {
            while (pin >= 0 && i < there.size() && there.get(i) != pin) {
                i++;
            }
        }
        return i < there.size();
    }

    private static int compare(Path one, Path other) {
        if (one.slack != other.slack) {
            return one.slack < other.slack ? -1 : 1;
        }
        if (one.start != other.start) {
            return one.start - other.start;
        }
        for (int i = 0; i < one.arcs.size() && i < other.arcs.size(); i++) {
            if (!one.arcs.get(i).equals(other.arcs.get(i))) {
                return one.arcs.get(i) - other.arcs.get(i);
            }
        }
        if (one.arcs.size() != other.arcs.size()) {
            return one.arcs.size() - other.arcs.size();
        }
        return one.end - other.end;
    }
}
