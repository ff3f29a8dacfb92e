import java.util.function.Supplier;

/**
 * Terms: "Methods throw what their comments name, the one named first when several would do." "A call that throws
 * changes nothing." Every refused call is made on a net of its own, which afterwards must answer all that a net of the
 * same calls without the refused one answers.
 */
final class RefusedCallsTest {
    private static final String INDEX = "IndexOutOfBoundsException";
    private static final String STATE = "IllegalStateException";
    private static final String ARGUMENT = "IllegalArgumentException";
    private static final double NO_TIME = 0.1;
    private static final int[] NO_NUMBERS = {-1, 1000, Integer.MIN_VALUE, Integer.MAX_VALUE};

    private final Supplier<PathLists> state;
    private final String name;
    private final String answers;

    /** Calls are refused on nets that are made by a state. */
    private RefusedCallsTest(String name, Supplier<PathLists> state) {
        this.name = name;
        this.state = state;
        answers = Answers.of(state.get());
        Check.same(name + " made once more", Answers.of(state.get()).equals(answers), true);
    }

    public static void main(String[] args) {
        answersTellNetsApart();
        RefusedCallsTest fresh = new RefusedCallsTest("fresh", PathLists::new);
        RefusedCallsTest listed = new RefusedCallsTest("listed", Nets::rich);
        RefusedCallsTest changed = new RefusedCallsTest("changed", RefusedCallsTest::richAndChanged);
        RefusedCallsTest full = new RefusedCallsTest("full", Nets::full);
        full.pin();
        listed.arc();
        full.arcOfFull();
        listed.end();
        full.endOfFull();
        listed.start();
        full.startOfFull();
        for (RefusedCallsTest test : new RefusedCallsTest[] {listed, changed, full}) {
            test.through();
            test.run();
            test.group();
            test.model();
            test.into();
            test.reduced();
        }
        listed.ofListedPaths();
        full.ofListedPaths();
        fresh.ofNoList();
        changed.ofNoList();
        listed.whatIf();
        changed.whatIf();
        full.whatIfOfFull();
        Check.finish();
    }

    private static PathLists richAndChanged() {
        PathLists net = Nets.rich();
        net.whatIf(0, 30);
        return net;
    }

    /** What the other tests here stand on: a net that is another one in a single thing has another text. */
    private static void answersTellNetsApart() {
        Nets.Asked[] changes = {net -> net.pin(), net -> net.arc(0, 3, 1), net -> net.end(0, 1), net -> net.start(3, 1),
            net -> Check.number(net.through(0, 9)), net -> Check.number(net.through(-1, 4)), net -> net.run(1),
            net -> net.group(0, 5), net -> Check.number(net.into(0, 3)), net -> Check.number(net.into(2, -1)),
            net -> Check.number(net.whatIf(1, 5)), net -> Check.number(net.back())};
        String answers = Answers.of(Nets.rich());
        for (int i = 0; i < changes.length; i++) {
            PathLists net = Nets.rich();
            changes[i].of(net);
            Check.same("answers after change " + i, Answers.of(net).equals(answers), false);
        }
    }

    private void refused(String due, String what, Nets.Asked call) {
        PathLists net = state.get();
        Check.same(name + ": " + what, Check.outcome(() -> call.of(net)), due);
        Check.same(name + ": all as it was after " + what, Answers.of(net).equals(answers), true);
    }

    private void pin() {
        refused(STATE, "pin()", net -> net.pin());
    }

    private void arc() {
        for (int none : NO_NUMBERS) {
            refused(INDEX, "arc from no pin, with no delay", net -> net.arc(none, 0, NO_TIME));
            refused(INDEX, "arc to no pin, with no delay", net -> net.arc(0, none, NO_TIME));
            refused(INDEX, "arc from no pin to the same", net -> net.arc(none, none, 1));
            refused(INDEX, "arc from no pin", net -> net.arc(none, 0, 1));
            refused(INDEX, "arc to no pin", net -> net.arc(0, none, 1));
        }
        refused(ARGUMENT, "arc with no delay", net -> net.arc(0, 3, NO_TIME));
        refused(ARGUMENT, "arc with a delay below 0", net -> net.arc(0, 3, -0.125));
        refused(ARGUMENT, "arc in a circle", net -> net.arc(3, 0, 1));
        refused(ARGUMENT, "arc in a circle, with no delay", net -> net.arc(2, 1, NO_TIME));
        refused(ARGUMENT, "arc to the same pin", net -> net.arc(2, 2, 1));
    }

    private void arcOfFull() {
        for (int none : NO_NUMBERS) {
            refused(INDEX, "arc 150 from no pin, with no delay", net -> net.arc(none, 0, NO_TIME));
            refused(INDEX, "arc 150 to no pin, with no delay", net -> net.arc(0, none, NO_TIME));
            refused(INDEX, "arc 150 from no pin", net -> net.arc(none, 0, 1));
            refused(INDEX, "arc 150 to no pin", net -> net.arc(0, none, 1));
        }
        refused(STATE, "arc 150", net -> net.arc(0, 1, 1));
        refused(STATE, "arc 150 with no delay", net -> net.arc(0, 1, NO_TIME));
        refused(STATE, "arc 150 in a circle", net -> net.arc(1, 0, 1));
        refused(STATE, "arc 150 to the same pin", net -> net.arc(1, 1, 1));
        refused(STATE, "arc 150 to the same pin, with no delay", net -> net.arc(1, 1, Double.NaN));
    }

    private void end() {
        for (int none : NO_NUMBERS) {
            refused(INDEX, "end at no pin", net -> net.end(none, 1));
            refused(INDEX, "end at no pin, with no time", net -> net.end(none, NO_TIME));
        }
        refused(ARGUMENT, "end with no time", net -> net.end(3, NO_TIME));
    }

    private void endOfFull() {
        for (int none : NO_NUMBERS) {
            refused(INDEX, "end 30 at no pin", net -> net.end(none, 1));
            refused(INDEX, "end 30 at no pin, with no time", net -> net.end(none, NO_TIME));
        }
        refused(STATE, "end 30", net -> net.end(1, 1));
        refused(STATE, "end 30 with no time", net -> net.end(1, NO_TIME));
    }

    private void start() {
        for (int none : NO_NUMBERS) {
            refused(INDEX, "start at no pin", net -> net.start(none, 1));
            refused(INDEX, "start at no pin, with no time", net -> net.start(none, NO_TIME));
        }
        refused(ARGUMENT, "start with no time", net -> net.start(0, NO_TIME));
    }

    private void startOfFull() {
        for (int none : NO_NUMBERS) {
            refused(INDEX, "start 30 at no pin", net -> net.start(none, 1));
            refused(INDEX, "start 30 at no pin, with no time", net -> net.start(none, NO_TIME));
        }
        refused(STATE, "start 30", net -> net.start(0, 1));
        refused(STATE, "start 30 with no time", net -> net.start(0, NO_TIME));
    }

    private void through() {
        for (int none : new int[] {-2, 60, Integer.MIN_VALUE, Integer.MAX_VALUE}) {
            refused(INDEX, "through(" + none + ", 0)", net -> Check.number(net.through(none, 0)));
            refused(INDEX, "through(" + none + ", 10)", net -> Check.number(net.through(none, 10)));
        }
        for (int none : new int[] {-1, 10, Integer.MIN_VALUE, Integer.MAX_VALUE}) {
            refused(ARGUMENT, "through(1, " + none + ")", net -> Check.number(net.through(1, none)));
            refused(ARGUMENT, "through(NONE, " + none + ")", net -> Check.number(net.through(-1, none)));
        }
    }

    private void run() {
        for (int none : new int[] {-1, 0, 41, Integer.MIN_VALUE, Integer.MAX_VALUE}) {
            refused(ARGUMENT, "run(" + none + ")", net -> net.run(none));
        }
    }

    private void group() {
        for (int none : NO_NUMBERS) {
            refused(INDEX, "group(" + none + ", 1)", net -> net.group(none, 1));
            refused(INDEX, "group(" + none + ", 8)", net -> net.group(none, 8));
        }
        for (int none : new int[] {-1, 8, Integer.MIN_VALUE, Integer.MAX_VALUE}) {
            refused(ARGUMENT, "group(1, " + none + ")", net -> net.group(1, none));
        }
    }

    private void model() {
        for (int none : new int[] {-1, 8, Integer.MIN_VALUE, Integer.MAX_VALUE}) {
            refused(INDEX, "model(" + none + ")", net -> net.model(none));
        }
    }

    private void into() {
        for (int none : NO_NUMBERS) {
            refused(INDEX, "into(" + none + ", 1)", net -> Check.number(net.into(none, 1)));
            refused(INDEX, "into(" + none + ", 8)", net -> Check.number(net.into(none, 8)));
            refused(INDEX, "into(" + none + ", NONE)", net -> Check.number(net.into(none, -1)));
        }
        for (int none : new int[] {-2, 8, Integer.MIN_VALUE, Integer.MAX_VALUE}) {
            refused(INDEX, "into(1, " + none + ")", net -> Check.number(net.into(1, none)));
        }
    }

    private void reduced() {
        for (int none : NO_NUMBERS) {
            refused(INDEX, "reduced(3, " + none + ", 1)", net -> net.reduced(3, none, 1));
            refused(INDEX, "reduced(3, 1, " + none + ")", net -> net.reduced(3, 1, none));
        }
        for (int none : new int[] {-1, 8, Integer.MIN_VALUE, Integer.MAX_VALUE}) {
            refused(INDEX, "reduced(" + none + ", 1, 1)", net -> net.reduced(none, 1, 1));
        }
    }

    private void ofListedPaths() {
        for (int none : NO_NUMBERS) {
            refused(INDEX, "slack(" + none + ")", net -> net.slack(none));
            refused(INDEX, "at(" + none + ", 0)", net -> net.at(none, 0));
            refused(INDEX, "at(0, " + none + ")", net -> net.at(0, none));
            refused(INDEX, "budget(1, " + none + ")", net -> net.budget(1, none));
            refused(INDEX, "budget(" + none + ", 0)", net -> net.budget(none, 0));
        }
    }

    private void ofNoList() {
        for (int n : new int[] {0, -1, 1000}) {
            refused(STATE, "slack(" + n + ") without a list", net -> net.slack(n));
            refused(STATE, "at(" + n + ", 0) without a list", net -> net.at(n, 0));
            refused(STATE, "at(0, " + n + ") without a list", net -> net.at(0, n));
            refused(STATE, "at(" + n + ", " + n + ") without a list", net -> net.at(n, n));
            refused(STATE, "budget(1, " + n + ") without a list", net -> net.budget(1, n));
            refused(STATE, "budget(" + n + ", 0) without a list", net -> net.budget(n, 0));
            refused(STATE, "budget(" + n + ", " + n + ") without a list", net -> net.budget(n, n));
        }
    }

    private void whatIf() {
        for (int none : NO_NUMBERS) {
            refused(INDEX, "whatIf of no arc", net -> Check.number(net.whatIf(none, 1)));
            refused(INDEX, "whatIf of no arc, with no delay", net -> Check.number(net.whatIf(none, NO_TIME)));
        }
        refused(ARGUMENT, "whatIf with no delay", net -> Check.number(net.whatIf(1, NO_TIME)));
        refused(ARGUMENT, "whatIf with a delay below 0", net -> Check.number(net.whatIf(1, -1)));
    }

    private void whatIfOfFull() {
        for (int none : NO_NUMBERS) {
            refused(INDEX, "whatIf 51 of no arc", net -> Check.number(net.whatIf(none, 1)));
            refused(INDEX, "whatIf 51 of no arc, with no delay", net -> Check.number(net.whatIf(none, NO_TIME)));
        }
        refused(STATE, "whatIf 51", net -> Check.number(net.whatIf(1, 8)));
        refused(STATE, "whatIf 51 with no delay", net -> Check.number(net.whatIf(1, NO_TIME)));
        refused(STATE, "whatIf 51 with the delay that it has", net -> Check.number(net.whatIf(0, 2)));
    }
}
