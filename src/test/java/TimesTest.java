/**
 * Terms: "TIMES are doubles that are whole numbers of 1/8, from -1048576 to 1048576 (delays from 0); so all sums here
 * are exact."
 */
final class TimesTest {
    private static final double GREATEST = 1048576;

    /** One of the calls that take a time: whether it took this one; if not, it was an IllegalArgumentException. */
    interface Taker {
        boolean takes(double time);
    }

    private TimesTest() {
    }

    public static void main(String[] args) {
        wholeEighths();
        notWholeEighths();
        lowestAndHighest();
        tooLowOrTooHigh();
        muchTooHigh();
        notNumbers();
        delaysFromZero();
        noDelaysBelowZero();
        negativeTimesOfStartsAndEnds();
        sumsAreExact();
        Check.finish();
    }

    private static boolean ofArc(double time) {
        PathLists net = Nets.pins(2);
        return took("arc(0, 1, " + time + ")", () -> net.arc(0, 1, time));
    }

    private static boolean ofEnd(double time) {
        PathLists net = Nets.pins(1);
        return took("end(0, " + time + ")", () -> net.end(0, time));
    }

    private static boolean ofStart(double time) {
        PathLists net = Nets.pins(1);
        return took("start(0, " + time + ")", () -> net.start(0, time));
    }

    private static boolean ofWhatIf(double time) {
        PathLists net = Nets.pins(2);
        net.arc(0, 1, 77.625);
        return took("whatIf(0, " + time + ")", () -> Check.number(!net.whatIf(0, time)));
    }

    /** All of these calls answer 0 if they take the time. */
    private static boolean took(String what, Check.Call call) {
        String outcome = Check.outcome(call);
        boolean took = outcome.equals("0.0");
        Check.same(what, outcome, took ? "0.0" : "IllegalArgumentException");
        return took;
    }

    private static void all(double time, boolean isTime, boolean isDelay) {
        one("end", TimesTest::ofEnd, time, isTime);
        one("start", TimesTest::ofStart, time, isTime);
        one("arc", TimesTest::ofArc, time, isDelay);
        one("whatIf", TimesTest::ofWhatIf, time, isDelay);
    }

    private static void one(String what, Taker taker, double time, boolean due) {
        Check.same(what + " takes " + time, taker.takes(time), due);
    }

    private static void wholeEighths() {
        for (int eighths = 0; eighths <= 16; eighths++) {
            all(eighths * 0.125, true, true);
            all(GREATEST - eighths * 0.125, true, true);
        }
    }

    private static void notWholeEighths() {
        double[] times = {0.0625, 0.1875, 0.1, 1.0 / 3, 7.9, Math.nextUp(0.125), Math.nextDown(0.125), Double.MIN_VALUE,
            Double.MIN_NORMAL, 1e-300, GREATEST - 0.0625, Math.nextDown(GREATEST), 1000.0625};
        for (double time : times) {
            all(time, false, false);
            all(-time, false, false);
        }
    }

    private static void lowestAndHighest() {
        all(GREATEST, true, true);
        all(-GREATEST, true, false);
    }

    private static void tooLowOrTooHigh() {
        double[] times = {GREATEST + 0.125, Math.nextUp(GREATEST), GREATEST + 1, 2 * GREATEST};
        for (double time : times) {
            all(time, false, false);
            all(-time, false, false);
        }
    }

    /** Times whose eighths are more than an int or a long holds: some of them would wrap around to 0. */
    private static void muchTooHigh() {
        double power = GREATEST;
        for (int i = 0; i < 100; i++) {
            power *= 2;
            all(power, false, false);
            all(-power, false, false);
        }
        all(Double.MAX_VALUE, false, false);
        all(-Double.MAX_VALUE, false, false);
    }

    private static void notNumbers() {
        all(Double.NaN, false, false);
        all(Double.POSITIVE_INFINITY, false, false);
        all(Double.NEGATIVE_INFINITY, false, false);
    }

    private static void delaysFromZero() {
        all(0.0, true, true);
        all(-0.0, true, true);
        all(0.125, true, true);
    }

    private static void noDelaysBelowZero() {
        double[] times = {-0.125, -1, -8, -1048575.875};
        for (double time : times) {
            all(time, true, false);
        }
    }

    private static void negativeTimesOfStartsAndEnds() {
        PathLists net = Nets.pins(1);
        net.start(0, -GREATEST);
        net.end(0, GREATEST);
        net.end(0, -0.125);
        Check.same("times below 0", Nets.listed(net, 2), "1048575.875: 0 1, 2097152.0: 0 0");
    }

    /** The greatest sum that a net can have, and sums that are 1/8 less: the list tells them apart. */
    private static void sumsAreExact() {
        PathLists net = Nets.pins(60);
        for (int pin = 0; pin < 59; pin++) {
            net.arc(pin, pin + 1, GREATEST);
        }
        net.arc(0, 1, GREATEST - 0.125);
        net.arc(58, 59, GREATEST - 0.25);
        net.start(0, GREATEST);
        net.end(59, -GREATEST);
        double greatest = 61 * GREATEST;
        Check.same("run(40)", net.run(40), 4);
        Check.same("slack(0)", net.slack(0), -greatest);
        Check.same("slack(1)", net.slack(1), -greatest + 0.125);
        Check.same("slack(2)", net.slack(2), -greatest + 0.25);
        Check.same("slack(3)", net.slack(3), -greatest + 0.375);
        for (int pin = 0; pin < 60; pin++) {
            net.into(pin, 1);
        }
        net.whatIf(0, GREATEST - 0.375);
        Check.same("reduced of the greatest sum", net.reduced(1, 0, 59), 59 * GREATEST - 0.125);
    }
}
