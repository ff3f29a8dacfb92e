import java.util.Random;

/** All promises: runs of calls by seeds, each answer compared with that of SlowPathLists. */
final class RandomRunsTest {
    private static final int RUNS = 600;
    private static final double[] DELAYS = {0, 0, 0.125, 0.125, 1, 1, 2, 2, 3.5, 1048576, -0.0, 0.1, -1, Double.NaN};
    private static final double[] TIMES = {0, 0, 1, 2, -2, 3.5, 10, 10, -1048576, 1048576, 0.3, 1048576.5,
        Double.NEGATIVE_INFINITY};

    private final Random random;
    private final PathLists quick = new PathLists();
    private final SlowPathLists slow = new SlowPathLists();
    private final int mostPins;
    private final int mostArcs;
    private int pins = 0;
    private int arcs = 0;

    private RandomRunsTest(int seed) {
        random = new Random(seed);
        mostPins = 1 + random.nextInt(9);
        mostArcs = random.nextInt(17);
    }

    public static void main(String[] args) {
        for (int seed = 0; seed < RUNS; seed++) {
            new RandomRunsTest(seed).run(seed);
        }
        Check.finish();
    }

    private void run(int seed) {
        for (int call = 0; call < 512; call++) {
            String name = "seed " + seed + ", call " + call + ", ";
            if (random.nextInt(3) == 0) {
                build(name);
            } else {
                ask(name);
            }
        }
    }

    private void build(String name) {
        int a = index(pins);
        int b = index(pins);
        double delay = pick(DELAYS);
        double time = pick(TIMES);
        switch (random.nextInt(random.nextInt(4) == 0 ? 5 : 2)) {
            case 0 -> {
                if (pins < mostPins) {
                    pins++;
                    same(name + "pin", () -> quick.pin(), () -> slow.pin());
                }
            }
            case 1 -> {
                if (arcs < mostArcs) {
                    String told = name + "arc " + a + " " + b + " " + delay;
                    same(told, () -> quick.arc(a, b, delay), () -> slow.arc(a, b, delay));
                    arcs += Check.outcome(() -> slow.whatIf(arcs, -1)).equals("IndexOutOfBoundsException") ? 0 : 1;
                }
            }
            case 2 -> same(name + "end " + a + " " + time, () -> quick.end(a, time), () -> slow.end(a, time));
            case 3 -> same(name + "start " + a + " " + time, () -> quick.start(a, time), () -> slow.start(a, time));
            default -> {
                int block = random.nextInt(12) == 0 ? index(8) : random.nextInt(3) - 1;
                same(name + "into " + a + " " + block, () -> Check.number(quick.into(a, block)),
                    () -> slow.into(a, block));
            }
        }
    }

    private void ask(String name) {
        int a = index(pins);
        int b = index(pins);
        int path = index(20);
        int block = random.nextInt(6) == 0 ? index(8) : random.nextInt(2);
        switch (random.nextInt(12)) {
            case 0, 1, 2 -> {
                int k = random.nextInt(3) == 0 ? index(41) : 1 + random.nextInt(6);
                same(name + "run " + k, () -> quick.run(k), () -> slow.run(k));
                compareAll(name);
            }
            case 3 -> same(name + "slack " + path, () -> quick.slack(path), () -> slow.slack(path));
            case 4 -> {
                int i = index(7);
                same(name + "at " + path + " " + i, () -> quick.at(path, i), () -> slow.at(path, i));
            }
            case 5 -> {
                int end = index(5);
                int g = random.nextInt(9) == 0 ? index(8) : random.nextInt(3);
                same(name + "group " + end + " " + g, () -> quick.group(end, g), () -> slow.group(end, g));
            }
            case 6 -> same(name + "model " + block, () -> quick.model(block), () -> slow.model(block));
            case 7 -> same(name + "reduced " + block + " " + a + " " + b, () -> quick.reduced(block, a, b),
                () -> slow.reduced(block, a, b));
            case 8 -> same(name + "budget " + block + " " + path, () -> quick.budget(block, path),
                () -> slow.budget(block, path));
            case 9 -> {
                int pin = random.nextInt(2) == 0 ? -1 : a;
                int order = index(10);
                same(name + "through " + pin + " " + order, () -> Check.number(quick.through(pin, order)),
                    () -> slow.through(pin, order));
            }
            case 10 -> {
                int arc = index(arcs);
                double delay = pick(DELAYS);
                same(name + "whatIf " + arc + " " + delay, () -> Check.number(quick.whatIf(arc, delay)),
                    () -> slow.whatIf(arc, delay));
            }
            default -> same(name + "back", () -> Check.number(quick.back()), () -> slow.back());
        }
    }

    /** Every answer about the listed paths, one place too far included. */
    private void compareAll(String name) {
        for (int n = 0; n < 322; n++) {
            int path = n;
            same(name + "slack " + path, () -> quick.slack(path), () -> slow.slack(path));
            same(name + "budget 0 " + path, () -> quick.budget(0, path), () -> slow.budget(0, path));
            boolean ends = false;
            for (int k = 0; k < 100 && !ends; k++) {
                int i = k;
                same(name + "at " + path + " " + i, () -> quick.at(path, i), () -> slow.at(path, i));
                ends = Check.outcome(() -> slow.at(path, i)).startsWith("I");
            }
            if (Check.outcome(() -> slow.slack(path)).startsWith("I")) {
                return;
            }
        }
    }

    private static void same(String call, Check.Call quick, Check.Call slow) {
        Check.same(call, Check.outcome(quick), Check.outcome(slow));
    }

    /** A number below a size, now and then one beside the edges. */
    private int index(int size) {
        int kind = random.nextInt(20);
        if (kind == 0) {
            return -1;
        }
        return kind == 1 || size == 0 ? size : random.nextInt(size);
    }

    private double pick(double[] from) {
        return from[random.nextInt(from.length)];
    }
}
