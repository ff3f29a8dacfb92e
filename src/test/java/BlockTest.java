/** Promises 11 to 13: model, into, reduced. */
final class BlockTest {
    private static final int NONE = PathLists.NONE;

    private BlockTest() {
    }

    public static void main(String[] args) {
        promise11And13();
        inputsAndOutputs();
        onlyArcsInside();
        promise11Wrong();
        promise12();
        promise13Wrong();
        large();
        Check.finish();
    }

    /** 0 to 1 and 2, these to 3 and 4, these to 5; 1 .. 4 are in a block. */
    private static PathLists butterfly() {
        PathLists net = Nets.pins(6);
        net.arc(0, 1, 1);
        net.arc(0, 2, 1);
        net.arc(1, 3, 2);
        net.arc(1, 4, 3);
        net.arc(2, 4, 4);
        net.arc(3, 5, 1);
        net.arc(4, 5, 1);
        for (int pin = 1; pin <= 4; pin++) {
            net.into(pin, 2);
        }
        return net;
    }

    private static void promise11And13() {
        PathLists net = butterfly();
        Check.same("model(2)", net.model(2), 3);
        Check.same("reduced(2, 1, 3)", net.reduced(2, 1, 3), 2);
        Check.same("reduced(2, 1, 4)", net.reduced(2, 1, 4), 3);
        Check.same("reduced(2, 2, 4)", net.reduced(2, 2, 4), 4);
        Check.same("reduced(2, 2, 3)", net.reduced(2, 2, 3), -1);
        Check.same("reduced(2, 3, 1)", net.reduced(2, 3, 1), -1);
        Check.same("reduced(2, 1, 1)", net.reduced(2, 1, 1), -1);
        Check.same("reduced(2, 4, 4)", net.reduced(2, 4, 4), -1);
        Check.same("reduced(2, 0, 5)", net.reduced(2, 0, 5), -1);
        Check.same("reduced(1, 1, 3): another block", net.reduced(1, 1, 3), -1);
        net.arc(3, 4, 9);
        Check.same("reduced(2, 1, 4) by the greatest sum", net.reduced(2, 1, 4), 11);
        Check.same("reduced(2, 1, 3) as before", net.reduced(2, 1, 3), 2);
        Check.same("model(2) as before", net.model(2), 3);
        Check.same("model(0) of no pins", net.model(0), 0);
        net.whatIf(7, 0.5);
        Check.same("reduced(2, 1, 4) after whatIf", net.reduced(2, 1, 4), 3);
    }

    private static void inputsAndOutputs() {
        PathLists net = butterfly();
        net.start(4, 0);
        Check.same("model(2): 4 is an input by its start", net.model(2), 4);
        Check.same("reduced(2, 4, 4)", net.reduced(2, 4, 4), 0);
        net.end(1, 0);
        Check.same("model(2): 1 is an output by its end", net.model(2), 5);
        Check.same("reduced(2, 1, 1)", net.reduced(2, 1, 1), 0);
        net.into(5, 2);
        Check.same("model(2): 3 and 4 lead to a pin in it", net.model(2), 1);
        Check.same("reduced(2, 1, 4)", net.reduced(2, 1, 4), -1);
        net.end(5, 0);
        Check.same("model(2): 5 is an output by its end", net.model(2), 4);
        Check.same("reduced(2, 1, 5)", net.reduced(2, 1, 5), 4);
        Check.same("reduced(2, 2, 5)", net.reduced(2, 2, 5), 5);
        Check.same("reduced(2, 4, 5)", net.reduced(2, 4, 5), 1);
        net.into(1, 4);
        Check.same("model(4) of a pin that is input and output", net.model(4), 1);
        Check.same("reduced(4, 1, 1)", net.reduced(4, 1, 1), 0);
        Check.same("reduced(2, 3, 5): 3 is an input by an arc from block 4", net.reduced(2, 3, 5), 1);
        net.into(5, 4);
        Check.same("reduced(2, 2, 4): 4 is an output by an arc to block 4", net.reduced(2, 2, 4), 4);
        Check.same("reduced(2, 3, 3): 3 is both by arcs of block 4", net.reduced(2, 3, 3), 0);
    }

    private static void onlyArcsInside() {
        PathLists net = Nets.pins(3);
        net.arc(0, 1, 1);
        net.arc(1, 2, 1);
        net.start(0, 0);
        net.end(2, 0);
        net.into(0, 0);
        net.into(2, 0);
        Check.same("reduced(0, 0, 2): the way is outside", net.reduced(0, 0, 2), -1);
        Check.same("model(0)", net.model(0), 2);
        net.into(1, 1);
        Check.same("reduced(0, 0, 2): the way is in another block", net.reduced(0, 0, 2), -1);
        net.into(1, 0);
        Check.same("reduced(0, 0, 2): the way is inside", net.reduced(0, 0, 2), 2);
        Check.same("model(0): one input, one output", net.model(0), 1);
    }

    private static void promise11Wrong() {
        PathLists net = butterfly();
        int[] noBlocks = {-1, 8, Integer.MIN_VALUE, Integer.MAX_VALUE};
        for (int block : noBlocks) {
            Check.outOfBounds("model(" + block + ")", () -> net.model(block));
            Check.outOfBounds("reduced(" + block + ", 0, 1)", () -> net.reduced(block, 0, 1));
        }
        Check.same("model(7)", net.model(7), 0);
    }

    private static void promise12() {
        PathLists net = Nets.pins(2);
        Check.same("into(0, NONE) of none", net.into(0, NONE), false);
        Check.same("into(0, 0)", net.into(0, 0), true);
        Check.same("into(0, 0) once more", net.into(0, 0), false);
        Check.same("into(0, 7)", net.into(0, 7), true);
        Check.same("into(0, NONE)", net.into(0, NONE), true);
        Check.same("into(0, NONE) once more", net.into(0, NONE), false);
        Check.outOfBounds("into(0, 8)", () -> Check.number(net.into(0, 8)));
        Check.outOfBounds("into(0, -2)", () -> Check.number(net.into(0, -2)));
        Check.outOfBounds("into(2, 0)", () -> Check.number(net.into(2, 0)));
        Check.outOfBounds("into(-1, 0)", () -> Check.number(net.into(-1, 0)));
        Check.outOfBounds("into(NONE, NONE)", () -> Check.number(net.into(NONE, NONE)));
        Check.same("into(0, NONE): the calls that threw changed nothing", net.into(0, NONE), false);
        net.start(1, 0);
        net.end(1, 0);
        net.into(1, 3);
        Check.same("model(3)", net.model(3), 1);
        net.into(1, 4);
        Check.same("model(3) when the pin is in another block", net.model(3), 0);
        Check.same("model(4)", net.model(4), 1);
        net.into(1, NONE);
        Check.same("model(4) when the pin is in none", net.model(4), 0);
    }

    private static void promise13Wrong() {
        PathLists net = butterfly();
        int[] noPins = {-1, 6, 60, Integer.MIN_VALUE, Integer.MAX_VALUE};
        for (int pin : noPins) {
            Check.outOfBounds("reduced(2, " + pin + ", 4)", () -> net.reduced(2, pin, 4));
            Check.outOfBounds("reduced(2, 1, " + pin + ")", () -> net.reduced(2, 1, pin));
        }
    }

    /** A block of all pins in a row, with the greatest delays: every pin is an input and an output. */
    private static void large() {
        PathLists net = Nets.pins(60);
        for (int pin = 0; pin < 59; pin++) {
            net.arc(59 - pin, 58 - pin, 1048576);
        }
        for (int pin = 0; pin < 60; pin++) {
            net.into(pin, 5);
        }
        for (int pin = 0; pin < 60; pin += 2) {
            net.start(pin, 0);
            net.end(pin, 0);
        }
        Check.same("model(5)", net.model(5), 30 * 31 / 2);
        Check.same("reduced(5, 58, 0)", net.reduced(5, 58, 0), 58 * 1048576.0);
        Check.same("reduced(5, 59, 0): 59 is no input", net.reduced(5, 59, 0), -1);
    }
}
