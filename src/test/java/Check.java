/** What the tests of one class found: answers that are not due are printed, and then finish() ends with exit code 1. */
final class Check {
    private static int wrong = 0;
    private static int asked = 0;

    /** A call whose answer or exception is looked at; a boolean answers 1 or 0. */
    interface Call {
        double answer();
    }

    private Check() {
    }

    static void same(String what, double got, double due) {
        asked++;
        if (got != due) {
            tell(what + " answered " + got + ", due is " + due);
        }
    }

    static void same(String what, boolean got, boolean due) {
        asked++;
        if (got != due) {
            tell(what + " answered " + got + ", due is " + due);
        }
    }

    static void same(String what, String got, String due) {
        asked++;
        if (!got.equals(due)) {
            tell(what + " answered " + got + ", due is " + due);
        }
    }

    static void outOfBounds(String what, Call call) {
        same(what, outcome(call), "IndexOutOfBoundsException");
    }

    static void badState(String what, Call call) {
        same(what, outcome(call), "IllegalStateException");
    }

    static void badArgument(String what, Call call) {
        same(what, outcome(call), "IllegalArgumentException");
    }

    /** A call's answer as a text, or the name of the very class that it threw, and who threw it if not the program. */
    static String outcome(Call call) {
        try {
            // + 0.0: a zero of either sign is the same answer.
            return String.valueOf(call.answer() + 0.0);
        } catch (RuntimeException e) {
            return e.getClass().getSimpleName() + (isThrownByProgram(e) ? "" : " thrown by the machine");
        }
    }

    private static boolean isThrownByProgram(RuntimeException e) {
        StackTraceElement[] trace = e.getStackTrace();
        return trace.length > 0 && trace[0].getClassName().endsWith("PathLists");
    }

    static double number(boolean answer) {
        return answer ? 1 : 0;
    }

    static void finish() {
        System.out.println(asked + " answers, " + wrong + " not as due");
        if (wrong > 0) {
            System.exit(1);
        }
    }

    private static void tell(String text) {
        wrong++;
        if (wrong <= 50) {
            System.out.println(text);
        }
    }
}
