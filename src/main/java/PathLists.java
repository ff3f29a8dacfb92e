import java.util.ArrayList;
import java.util.Arrays;

/**
 * The worst ways of a net of delays: from starts to ends, in order of what time is left, through pins if need be;
 * what blocks of pins do from end to end; what would be if a delay were another one, and all as it was.
 *
 * A start is held as a step from the source to its pin, and an end as a step from its pin to the sink: so a path is a
 * walk from the source to the sink, and what is done with arcs need not be done once more with starts and ends.
 */
public final class PathLists {
    public static final int NONE = -1;

    private static final int MOST_PINS = 60;
    private static final int MOST_ARCS = 150;
    private static final int MOST_STARTS = 30;
    private static final int MOST_ENDS = 30;
    private static final int MOST_CHANGES = 50;
    private static final int MOST_TIME = 1048576;
    private static final int PARTS_OF_TIME = 8;
    private static final int GROUPS = 8;
    private static final int BLOCKS = 8;
    private static final int ORDERS = 10;
    private static final int MOST_OF_A_GROUP = 40;
    private static final int MOST_WAYS = GROUPS * MOST_OF_A_GROUP;
    private static final int UNREACHED = -1;

    private final ArrayList<Pin> pins = new ArrayList<>();
    private final ArrayList<Step> arcs = new ArrayList<>();
    private final ArrayList<Step> starts = new ArrayList<>();
    private final ArrayList<Step> ends = new ArrayList<>();
    private final ArrayList<Change> changes = new ArrayList<>();
    /** The pins by their places. */
    private final ArrayList<Pin> sorted = new ArrayList<>();
    private final int[] throughPins = new int[ORDERS];
    private final Pin source = new Pin(NONE, MOST_WAYS);
    private final Pin sink = new Pin(MOST_PINS, 1);
    /** How many ways of each group the pin has that is being gathered. */
    private final int[] taken = new int[GROUPS];
    private boolean isListed = false;

    /** A pin, or the source before all starts, or the sink behind all ends. */
    private static final class Pin {
        private final ArrayList<Step> in = new ArrayList<>();
        /** First the ends by their numbers, then the arcs by theirs: so ways of the same time left stand. */
        private final ArrayList<Step> out = new ArrayList<>();
        private final Ways ways;
        /** Steps lead to higher places only. */
        private int place;
        private int endCount = 0;
        private int block = NONE;
        /** The greatest sum of delays that the latest spread() brought here. */
        private double reach = UNREACHED;

        private Pin(int place, int mostWays) {
            this.place = place;
            this.ways = new Ways(mostWays);
        }
    }

    /** A start, an arc or an end. */
    private static final class Step {
        private final int number;
        private final Pin from;
        private final Pin to;
        /** What it takes from the time left: an arrival, a delay, or what is required with the other sign. */
        private double cost;
        /** Of an end. */
        private int group = 0;
        /** Which of the ways behind it is to be taken next. */
        private int next = 0;

        private Step(int number, Pin from, Pin to, double cost) {
            this.number = number;
            this.from = from;
            this.to = to;
            this.cost = cost;
        }
    }

    /** The first ways from a pin to the sink in their order, each as its first step and one of the ways behind it. */
    private static final class Ways {
        private final double[] left;
        private final Step[] step;
        private final int[] rest;
        private final int[] group;
        private int size = 0;

        private Ways(int most) {
            left = new double[most];
            step = new Step[most];
            rest = new int[most];
            group = new int[most];
        }
    }

    /** A delay that was, for back(). */
    private static final class Change {
        private final Step arc;
        private final double delay;

        private Change(Step arc, double delay) {
            this.arc = arc;
            this.delay = delay;
        }
    }

    public PathLists() {
        Arrays.fill(throughPins, NONE);
        // The one way from the sink to the sink: no step, no time taken.
        sink.ways.size = 1;
    }

    public int pin() throws IllegalStateException {
        if (pins.size() >= MOST_PINS) {
            throw new IllegalStateException("no more pins");
        }
        // A pin without arcs may have the last place.
        Pin pin = new Pin(sorted.size(), MOST_WAYS);
        sorted.add(pin);
        pins.add(pin);
        isListed = false;
        return pins.size() - 1;
    }

    public int arc(int from, int to, double delay)
            throws IndexOutOfBoundsException, IllegalStateException, IllegalArgumentException {
        checkIndex(from, pins.size());
        checkIndex(to, pins.size());
        if (arcs.size() >= MOST_ARCS) {
            throw new IllegalStateException("no more arcs");
        }
        if (!isDelay(delay)) {
            throw new IllegalArgumentException("no delay");
        }
        Pin tail = pins.get(from);
        Pin head = pins.get(to);
        spread(head, NONE);
        if (tail.reach >= 0) {
            throw new IllegalArgumentException("a circle");
        }
        placeReachedLast();
        Step arc = new Step(arcs.size(), tail, head, delay);
        tail.out.add(arc);
        head.in.add(arc);
        arcs.add(arc);
        isListed = false;
        return arc.number;
    }

    public int end(int pin, double required)
            throws IndexOutOfBoundsException, IllegalStateException, IllegalArgumentException {
        checkIndex(pin, pins.size());
        if (ends.size() >= MOST_ENDS) {
            throw new IllegalStateException("no more ends");
        }
        checkTime(required);
        Pin at = pins.get(pin);
        Step end = new Step(ends.size(), at, sink, 0 - required);
        at.out.add(at.endCount, end);
        at.endCount++;
        ends.add(end);
        isListed = false;
        return end.number;
    }

    public int start(int pin, double arrival)
            throws IndexOutOfBoundsException, IllegalStateException, IllegalArgumentException {
        checkIndex(pin, pins.size());
        if (starts.size() >= MOST_STARTS) {
            throw new IllegalStateException("no more starts");
        }
        checkTime(arrival);
        Pin at = pins.get(pin);
        Step start = new Step(starts.size(), source, at, arrival);
        source.out.add(start);
        at.in.add(start);
        starts.add(start);
        isListed = false;
        return start.number;
    }

    public boolean through(int pin, int order) throws IndexOutOfBoundsException, IllegalArgumentException {
        if (pin != NONE) {
            checkIndex(pin, pins.size());
        }
        if (order < 0 || order >= ORDERS) {
            throw new IllegalArgumentException("no such order");
        }
        if (throughPins[order] == pin) {
            return false;
        }
        throughPins[order] = pin;
        isListed = false;
        return true;
    }

    public int run(int k) throws IllegalArgumentException {
        if (k < 1 || k > MOST_OF_A_GROUP) {
            throw new IllegalArgumentException("k is not 1 .. 40");
        }
        source.ways.size = 0;
        if (throughRises()) {
            for (int i = sorted.size() - 1; i >= 0; i--) {
                gather(sorted.get(i), k);
            }
            gather(source, k);
        }
        isListed = true;
        return source.ways.size;
    }

    public double slack(int path) throws IllegalStateException, IndexOutOfBoundsException {
        checkListed();
        checkIndex(path, source.ways.size);
        return source.ways.left[path];
    }

    public int at(int path, int i) throws IllegalStateException, IndexOutOfBoundsException {
        checkListed();
        checkIndex(path, source.ways.size);
        Step step = stepOf(path, i);
        if (step == null) {
            throw new IndexOutOfBoundsException("no such place");
        }
        return step.number;
    }

    public int group(int end, int g) throws IndexOutOfBoundsException, IllegalArgumentException {
        checkIndex(end, ends.size());
        if (g < 0 || g >= GROUPS) {
            throw new IllegalArgumentException("no such group");
        }
        if (ends.get(end).group != g) {
            ends.get(end).group = g;
            isListed = false;
        }
        int count = 0;
        for (int i = 0; i < ends.size(); i++) {
            if (ends.get(i).group == g) {
                count++;
            }
        }
        return count;
    }

    public int model(int block) throws IndexOutOfBoundsException {
        checkIndex(block, BLOCKS);
        int count = 0;
        for (int i = 0; i < pins.size(); i++) {
            Pin pin = pins.get(i);
            if (isInput(pin, block)) {
                spread(pin, block);
                count += countReachedOutputs(block);
            }
        }
        return count;
    }

    public boolean into(int pin, int block) throws IndexOutOfBoundsException {
        checkIndex(pin, pins.size());
        if (block != NONE) {
            checkIndex(block, BLOCKS);
        }
        Pin moved = pins.get(pin);
        // The listed paths do not hang on blocks, so they stay listed.
        boolean isOther = moved.block != block;
        moved.block = block;
        return isOther;
    }

    public double reduced(int block, int from, int to) throws IndexOutOfBoundsException {
        checkIndex(block, BLOCKS);
        checkIndex(from, pins.size());
        checkIndex(to, pins.size());
        Pin input = pins.get(from);
        Pin output = pins.get(to);
        if (!isInput(input, block) || !isOutput(output, block)) {
            return UNREACHED;
        }
        spread(input, block);
        return output.reach;
    }

    public double budget(int block, int k) throws IllegalStateException, IndexOutOfBoundsException {
        checkListed();
        checkIndex(block, BLOCKS);
        checkIndex(k, source.ways.size);
        double all = 0;
        double inBlock = 0;
        for (int i = 1; i <= MOST_ARCS; i++) {
            Step step = stepOf(k, i);
            if (step == null || step.to == sink) {
                break;
            }
            all += step.cost;
            if (step.to.block == block) {
                inBlock += step.cost;
            }
        }
        return all > 0 ? source.ways.left[k] * inBlock / all : 0;
    }

    public boolean whatIf(int arc, double delay)
            throws IndexOutOfBoundsException, IllegalStateException, IllegalArgumentException {
        checkIndex(arc, arcs.size());
        if (changes.size() >= MOST_CHANGES) {
            throw new IllegalStateException("no more can be taken back");
        }
        if (!isDelay(delay)) {
            throw new IllegalArgumentException("no delay");
        }
        Step changed = arcs.get(arc);
        if (changed.cost == delay) {
            return false;
        }
        changes.add(new Change(changed, changed.cost));
        changed.cost = delay;
        isListed = false;
        return true;
    }

    public boolean back() {
        if (changes.isEmpty()) {
            return false;
        }
        Change latest = changes.remove(changes.size() - 1);
        latest.arc.cost = latest.delay;
        isListed = false;
        return true;
    }

    private static void checkIndex(int index, int size) {
        if (index < 0 || index >= size) {
            throw new IndexOutOfBoundsException("there is none of this number");
        }
    }

    private static void checkTime(double time) {
        if (!isTime(time)) {
            throw new IllegalArgumentException("no time");
        }
    }

    private void checkListed() {
        if (!isListed) {
            throw new IllegalStateException("no paths are listed");
        }
    }

    private static boolean isTime(double time) {
        // The bounds come first: they keep out what is no number, and what would not fit an int.
        return time >= -MOST_TIME && time <= MOST_TIME && time * PARTS_OF_TIME == (int) (time * PARTS_OF_TIME);
    }

    private static boolean isDelay(double delay) {
        return delay >= 0 && isTime(delay);
    }

    /**
     * Sets how far all pins are from one of them: the greatest sums of delays, by arcs inside a block that it is in, or
     * (NONE) by any arcs. The sink may be given one too, which nobody reads.
     */
    private void spread(Pin from, int block) {
        for (int i = 0; i < pins.size(); i++) {
            pins.get(i).reach = UNREACHED;
        }
        from.reach = 0;
        for (int i = 0; i < sorted.size(); i++) {
            Pin pin = sorted.get(i);
            if (pin.reach >= 0) {
                spreadFurther(pin, block);
            }
        }
    }

    private void spreadFurther(Pin pin, int block) {
        for (int i = 0; i < pin.out.size(); i++) {
            Step step = pin.out.get(i);
            double sum = pin.reach + step.cost;
            if ((block == NONE || step.to.block == block) && sum > step.to.reach) {
                step.to.reach = sum;
            }
        }
    }

    /** Gives the pins that were reached from one the last places, so that another arc may lead to that one. */
    private void placeReachedLast() {
        int others = 0;
        for (int i = 0; i < sorted.size(); i++) {
            Pin pin = sorted.get(i);
            if (pin.reach < 0) {
                sorted.remove(i);
                sorted.add(others, pin);
                others++;
            }
        }
        for (int i = 0; i < sorted.size(); i++) {
            sorted.get(i).place = i;
        }
    }

    /** Whether the pins to go through stand by rising places: if not, no path has them one behind the other. */
    private boolean throughRises() {
        int highest = NONE;
        for (int order = 0; order < ORDERS; order++) {
            int place = placeOfOrder(order);
            if (place != NONE && place < highest) {
                return false;
            }
            highest = place == NONE ? highest : place;
        }
        return true;
    }

    private int placeOfOrder(int order) {
        int pin = throughPins[order];
        return pin >= 0 && pin < pins.size() ? pins.get(pin).place : NONE;
    }

    /** Whether paths that take a step have left out a pin to go through: its place lies between the step's two. */
    private boolean leavesOut(Step step) {
        for (int order = 0; order < ORDERS; order++) {
            int place = placeOfOrder(order);
            if (place != NONE && step.from.place < place && place < step.to.place) {
                return true;
            }
        }
        return false;
    }

    /** Finds the first ways from a pin, k of each group at most; those from the pins of higher places are known. */
    private void gather(Pin pin, int k) {
        Arrays.fill(taken, 0);
        Ways ways = pin.ways;
        ways.size = 0;
        for (int i = 0; i < pin.out.size(); i++) {
            Step step = pin.out.get(i);
            step.next = leavesOut(step) ? step.to.ways.size : 0;
        }
        for (int n = 0; n < ways.left.length; n++) {
            Step first = firstOf(pin.out, k);
            if (first == null) {
                return;
            }
            take(first, ways);
        }
    }

    /** The step whose next way leaves the least time; null when no way is left to be taken. */
    private Step firstOf(ArrayList<Step> steps, int k) {
        Step first = null;
        for (int i = 0; i < steps.size(); i++) {
            Step step = steps.get(i);
            // Not "or equal": of the same time left, the step that stands first among the pin's steps goes first.
            if (hasNext(step, k) && (first == null || leftByNext(step) < leftByNext(first))) {
                first = step;
            }
        }
        return first;
    }

    /** Brings a step to the next of its ways whose group has room for it: whether there is one. */
    private boolean hasNext(Step step, int k) {
        int size = step.to.ways.size;
        while (step.next < size && taken[groupOfNext(step)] >= k) {
            step.next++;
        }
        return step.next < size;
    }

    private double leftByNext(Step step) {
        return step.to.ways.left[step.next] - step.cost;
    }

    private int groupOfNext(Step step) {
        return step.to == sink ? step.group : step.to.ways.group[step.next];
    }

    private void take(Step step, Ways ways) {
        int group = groupOfNext(step);
        ways.left[ways.size] = leftByNext(step);
        ways.step[ways.size] = step;
        ways.rest[ways.size] = step.next;
        ways.group[ways.size] = group;
        ways.size++;
        taken[group]++;
        step.next++;
    }

    /** What stands at a place of a listed path; null when it has no such place. */
    private Step stepOf(int path, int place) {
        if (place < 0) {
            return null;
        }
        Ways ways = source.ways;
        int way = path;
        for (int i = 0; i < place; i++) {
            Step step = firstStep(ways, way);
            if (step == null) {
                return null;
            }
            way = ways.rest[way];
            ways = step.to.ways;
        }
        return firstStep(ways, way);
    }

    /** The first step of a way; null of the one from the sink, and when there is no such way. */
    private static Step firstStep(Ways ways, int way) {
        return way >= 0 && way < ways.size ? ways.step[way] : null;
    }

    /** Whether a pin is one of a block's inputs. Starts come from the source, which is in no block. */
    private static boolean isInput(Pin pin, int block) {
        if (pin.block != block) {
            return false;
        }
        for (int i = 0; i < pin.in.size(); i++) {
            if (pin.in.get(i).from.block != block) {
                return true;
            }
        }
        return false;
    }

    /** Whether a pin is one of a block's outputs. Ends lead to the sink, which is in no block. */
    private static boolean isOutput(Pin pin, int block) {
        if (pin.block != block) {
            return false;
        }
        for (int i = 0; i < pin.out.size(); i++) {
            if (pin.out.get(i).to.block != block) {
                return true;
            }
        }
        return false;
    }

    private int countReachedOutputs(int block) {
        int count = 0;
        for (int i = 0; i < pins.size(); i++) {
            Pin pin = pins.get(i);
            if (pin.reach >= 0 && isOutput(pin, block)) {
                count++;
            }
        }
        return count;
    }
}
