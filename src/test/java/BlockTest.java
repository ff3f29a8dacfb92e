/** Promises 11 to 13: model, into, reduced. */
final class BlockTest {
    private static final int NONE = PathLists.NONE;

    private BlockTest() {
    }

    public static void main(String[] args) {
        promise11And13();
        inputsAndOutputs();
        onlyArcsInside();
        promise11Wrong();
        promise12();
        promise13Wrong();
        large();
        blockNumbers();
        onePinAlone();
        inputsByStarts();
        inputsByArcs();
        outputsByEnds();
        outputsByArcs();
        inputsAndOutputsAreOfTheBlock();
        insideByBothPins();
        waysThatLeaveTheBlock();
        waysOverInputsAndOutputs();
        delaysOfZero();
        greatestSum();
        eachTwoOnce();
        onlyOneBlock();
        Check.finish();
    }

    /** 0 to 1 and 2, these to 3 and 4, these to 5; 1 .. 4 are in a block. */
    private static PathLists butterfly() {
        PathLists net = Nets.pins(6);
        net.arc(0, 1, 1);
        net.arc(0, 2, 1);
        net.arc(1, 3, 2);
        net.arc(1, 4, 3);
        net.arc(2, 4, 4);
        net.arc(3, 5, 1);
        net.arc(4, 5, 1);
        for (int pin = 1; pin <= 4; pin++) {
            net.into(pin, 2);
        }
        return net;
    }

    private static void promise11And13() {
        PathLists net = butterfly();
        Check.same("model(2)", net.model(2), 3);
        Check.same("reduced(2, 1, 3)", net.reduced(2, 1, 3), 2);
        Check.same("reduced(2, 1, 4)", net.reduced(2, 1, 4), 3);
        Check.same("reduced(2, 2, 4)", net.reduced(2, 2, 4), 4);
        Check.same("reduced(2, 2, 3)", net.reduced(2, 2, 3), -1);
        Check.same("reduced(2, 3, 1)", net.reduced(2, 3, 1), -1);
        Check.same("reduced(2, 1, 1)", net.reduced(2, 1, 1), -1);
        Check.same("reduced(2, 4, 4)", net.reduced(2, 4, 4), -1);
        Check.same("reduced(2, 0, 5)", net.reduced(2, 0, 5), -1);
        Check.same("reduced(1, 1, 3): another block", net.reduced(1, 1, 3), -1);
        net.arc(3, 4, 9);
        Check.same("reduced(2, 1, 4) by the greatest sum", net.reduced(2, 1, 4), 11);
        Check.same("reduced(2, 1, 3) as before", net.reduced(2, 1, 3), 2);
        Check.same("model(2) as before", net.model(2), 3);
        Check.same("model(0) of no pins", net.model(0), 0);
        net.whatIf(7, 0.5);
        Check.same("reduced(2, 1, 4) after whatIf", net.reduced(2, 1, 4), 3);
    }

    private static void inputsAndOutputs() {
        PathLists net = butterfly();
        net.start(4, 0);
        Check.same("model(2): 4 is an input by its start", net.model(2), 4);
        Check.same("reduced(2, 4, 4)", net.reduced(2, 4, 4), 0);
        net.end(1, 0);
        Check.same("model(2): 1 is an output by its end", net.model(2), 5);
        Check.same("reduced(2, 1, 1)", net.reduced(2, 1, 1), 0);
        net.into(5, 2);
        Check.same("model(2): 3 and 4 lead to a pin in it", net.model(2), 1);
        Check.same("reduced(2, 1, 4)", net.reduced(2, 1, 4), -1);
        net.end(5, 0);
        Check.same("model(2): 5 is an output by its end", net.model(2), 4);
        Check.same("reduced(2, 1, 5)", net.reduced(2, 1, 5), 4);
        Check.same("reduced(2, 2, 5)", net.reduced(2, 2, 5), 5);
        Check.same("reduced(2, 4, 5)", net.reduced(2, 4, 5), 1);
        net.into(1, 4);
        Check.same("model(4) of a pin that is input and output", net.model(4), 1);
        Check.same("reduced(4, 1, 1)", net.reduced(4, 1, 1), 0);
        Check.same("reduced(2, 3, 5): 3 is an input by an arc from block 4", net.reduced(2, 3, 5), 1);
        net.into(5, 4);
        Check.same("reduced(2, 2, 4): 4 is an output by an arc to block 4", net.reduced(2, 2, 4), 4);
        Check.same("reduced(2, 3, 3): 3 is both by arcs of block 4", net.reduced(2, 3, 3), 0);
    }

    private static void onlyArcsInside() {
        PathLists net = Nets.pins(3);
        net.arc(0, 1, 1);
        net.arc(1, 2, 1);
        net.start(0, 0);
        net.end(2, 0);
        net.into(0, 0);
        net.into(2, 0);
        Check.same("reduced(0, 0, 2): the way is outside", net.reduced(0, 0, 2), -1);
        Check.same("model(0)", net.model(0), 2);
        net.into(1, 1);
        Check.same("reduced(0, 0, 2): the way is in another block", net.reduced(0, 0, 2), -1);
        net.into(1, 0);
        Check.same("reduced(0, 0, 2): the way is inside", net.reduced(0, 0, 2), 2);
        Check.same("model(0): one input, one output", net.model(0), 1);
    }

    private static void promise11Wrong() {
        PathLists net = butterfly();
        int[] noBlocks = {-1, 8, Integer.MIN_VALUE, Integer.MAX_VALUE};
        for (int block : noBlocks) {
            Check.outOfBounds("model(" + block + ")", () -> net.model(block));
            Check.outOfBounds("reduced(" + block + ", 0, 1)", () -> net.reduced(block, 0, 1));
        }
        Check.same("model(7)", net.model(7), 0);
    }

    private static void promise12() {
        PathLists net = Nets.pins(2);
        Check.same("into(0, NONE) of none", net.into(0, NONE), false);
        Check.same("into(0, 0)", net.into(0, 0), true);
        Check.same("into(0, 0) once more", net.into(0, 0), false);
        Check.same("into(0, 7)", net.into(0, 7), true);
        Check.same("into(0, NONE)", net.into(0, NONE), true);
        Check.same("into(0, NONE) once more", net.into(0, NONE), false);
        Check.outOfBounds("into(0, 8)", () -> Check.number(net.into(0, 8)));
        Check.outOfBounds("into(0, -2)", () -> Check.number(net.into(0, -2)));
        Check.outOfBounds("into(2, 0)", () -> Check.number(net.into(2, 0)));
        Check.outOfBounds("into(-1, 0)", () -> Check.number(net.into(-1, 0)));
        Check.outOfBounds("into(NONE, NONE)", () -> Check.number(net.into(NONE, NONE)));
        Check.same("into(0, NONE): the calls that threw changed nothing", net.into(0, NONE), false);
        net.start(1, 0);
        net.end(1, 0);
        net.into(1, 3);
        Check.same("model(3)", net.model(3), 1);
        net.into(1, 4);
        Check.same("model(3) when the pin is in another block", net.model(3), 0);
        Check.same("model(4)", net.model(4), 1);
        net.into(1, NONE);
        Check.same("model(4) when the pin is in none", net.model(4), 0);
    }

    private static void promise13Wrong() {
        PathLists net = butterfly();
        int[] noPins = {-1, 6, 60, Integer.MIN_VALUE, Integer.MAX_VALUE};
        for (int pin : noPins) {
            Check.outOfBounds("reduced(2, " + pin + ", 4)", () -> net.reduced(2, pin, 4));
            Check.outOfBounds("reduced(2, 1, " + pin + ")", () -> net.reduced(2, 1, pin));
        }
    }

    /** A block of all pins in a row, with the greatest delays: every pin is an input and an output. */
    private static void large() {
        PathLists net = Nets.pins(60);
        for (int pin = 0; pin < 59; pin++) {
            net.arc(59 - pin, 58 - pin, 1048576);
        }
        for (int pin = 0; pin < 60; pin++) {
            net.into(pin, 5);
        }
        for (int pin = 0; pin < 60; pin += 2) {
            net.start(pin, 0);
            net.end(pin, 0);
        }
        Check.same("model(5)", net.model(5), 30 * 31 / 2);
        Check.same("reduced(5, 58, 0)", net.reduced(5, 58, 0), 58 * 1048576.0);
        Check.same("reduced(5, 59, 0): 59 is no input", net.reduced(5, 59, 0), -1);
    }

    /** "BLOCKS 0 .. 7" */
    private static void blockNumbers() {
        PathLists net = Nets.pins(8);
        for (int block = 0; block < 8; block++) {
            net.start(block, 0);
            net.end(block, 0);
            Check.same("into(" + block + ", " + block + ")", net.into(block, block), true);
        }
        for (int block = 0; block < 8; block++) {
            Check.same("model(" + block + ")", net.model(block), 1);
            Check.same("reduced of block " + block, net.reduced(block, block, block), 0);
            Check.same("reduced of block " + block + ", by a pin of another", net.reduced(block, 7 - block, block), -1);
        }
    }

    /** A pin that is an input, an output, both or neither of a block of its own. */
    private static void onePinAlone() {
        PathLists net = Nets.pins(2);
        net.into(0, 6);
        Check.same("model(6): neither input nor output", net.model(6), 0);
        Check.same("reduced(6, 0, 0): neither input nor output", net.reduced(6, 0, 0), -1);
        net.start(0, 0);
        Check.same("model(6): an input", net.model(6), 0);
        Check.same("reduced(6, 0, 0): an input", net.reduced(6, 0, 0), -1);
        net.arc(0, 1, 5);
        Check.same("model(6): both", net.model(6), 1);
        Check.same("reduced(6, 0, 0): both, with 0", net.reduced(6, 0, 0), 0);
        net.into(0, NONE);
        net.into(1, 6);
        Check.same("model(6): an input by an arc", net.model(6), 0);
        net.end(1, 0);
        Check.same("model(6): both by an arc and an end", net.model(6), 1);
        Check.same("reduced(6, 1, 1)", net.reduced(6, 1, 1), 0);
        Check.same("reduced(6, 0, 1): 0 is in no block", net.reduced(6, 0, 1), -1);
    }

    /** 0 to 1 to 2, all in block 0, with nothing outside. */
    private static PathLists three() {
        PathLists net = Nets.pins(5);
        net.arc(0, 1, 1);
        net.arc(1, 2, 2);
        for (int pin = 0; pin < 3; pin++) {
            net.into(pin, 0);
        }
        return net;
    }

    /** "INPUTS are its pins with a start" */
    private static void inputsByStarts() {
        PathLists net = three();
        net.end(2, 0);
        Check.same("reduced(0, 0, 2): 0 is no input", net.reduced(0, 0, 2), -1);
        Check.same("model(0) without inputs", net.model(0), 0);
        net.start(0, 0);
        Check.same("reduced(0, 0, 2): 0 has a start", net.reduced(0, 0, 2), 3);
        Check.same("reduced(0, 1, 2): 1 has none", net.reduced(0, 1, 2), -1);
        net.start(1, 0);
        Check.same("reduced(0, 1, 2): 1 has a start", net.reduced(0, 1, 2), 2);
        Check.same("reduced(0, 2, 2): 2 has none", net.reduced(0, 2, 2), -1);
        net.start(0, 9);
        Check.same("model(0): two starts at a pin are one input", net.model(0), 2);
    }

    /** "or an arc from a pin that is not in it": in none, or in another one. */
    private static void inputsByArcs() {
        PathLists net = three();
        net.end(2, 0);
        net.arc(3, 1, 7);
        Check.same("reduced(0, 1, 2): an arc from a pin of no block", net.reduced(0, 1, 2), 2);
        Check.same("model(0)", net.model(0), 1);
        net.into(3, 5);
        Check.same("reduced(0, 1, 2): an arc from a pin of block 5", net.reduced(0, 1, 2), 2);
        net.into(3, 0);
        Check.same("reduced(0, 1, 2): an arc from a pin of block 0", net.reduced(0, 1, 2), -1);
        Check.same("model(0): no inputs", net.model(0), 0);
        net.arc(4, 3, 7);
        Check.same("reduced(0, 3, 2): 3 is an input", net.reduced(0, 3, 2), 9);
        Check.same("reduced(0, 1, 2): 1 is none", net.reduced(0, 1, 2), -1);
    }

    /** "OUTPUTS those with an end" */
    private static void outputsByEnds() {
        PathLists net = three();
        net.start(0, 0);
        Check.same("reduced(0, 0, 2): 2 is no output", net.reduced(0, 0, 2), -1);
        Check.same("model(0) without outputs", net.model(0), 0);
        net.end(2, 0);
        Check.same("reduced(0, 0, 2): 2 has an end", net.reduced(0, 0, 2), 3);
        Check.same("reduced(0, 0, 1): 1 has none", net.reduced(0, 0, 1), -1);
        net.end(1, 0);
        Check.same("reduced(0, 0, 1): 1 has an end", net.reduced(0, 0, 1), 1);
        Check.same("reduced(0, 0, 0): 0 has none", net.reduced(0, 0, 0), -1);
        net.end(2, 9);
        Check.same("model(0): two ends at a pin are one output", net.model(0), 2);
    }

    /** "or an arc to a pin that is not in it": in none, or in another one. */
    private static void outputsByArcs() {
        PathLists net = three();
        net.start(0, 0);
        net.arc(1, 3, 7);
        Check.same("reduced(0, 0, 1): an arc to a pin of no block", net.reduced(0, 0, 1), 1);
        Check.same("model(0)", net.model(0), 1);
        net.into(3, 5);
        Check.same("reduced(0, 0, 1): an arc to a pin of block 5", net.reduced(0, 0, 1), 1);
        net.into(3, 0);
        Check.same("reduced(0, 0, 1): an arc to a pin of block 0", net.reduced(0, 0, 1), -1);
        Check.same("model(0): no outputs", net.model(0), 0);
        net.arc(3, 4, 7);
        Check.same("reduced(0, 0, 3): 3 is an output", net.reduced(0, 0, 3), 8);
        Check.same("reduced(0, 0, 1): 1 is none", net.reduced(0, 0, 1), -1);
    }

    /** "its pins": a pin outside that has a start or an end is no input or output. */
    private static void inputsAndOutputsAreOfTheBlock() {
        PathLists net = three();
        net.arc(3, 0, 1);
        net.arc(2, 4, 1);
        net.start(3, 0);
        net.end(4, 0);
        Check.same("model(0)", net.model(0), 1);
        Check.same("reduced(0, 0, 2)", net.reduced(0, 0, 2), 3);
        Check.same("reduced(0, 3, 2): 3 is not in it", net.reduced(0, 3, 2), -1);
        Check.same("reduced(0, 0, 4): 4 is not in it", net.reduced(0, 0, 4), -1);
        Check.same("reduced(0, 3, 3): 3 is not in it", net.reduced(0, 3, 3), -1);
        Check.same("reduced(0, 2, 0): against the arcs", net.reduced(0, 2, 0), -1);
    }

    /** "An arc is INSIDE a block if both its pins are in it." */
    private static void insideByBothPins() {
        PathLists net = three();
        net.start(0, 0);
        net.end(2, 0);
        Check.same("reduced(0, 0, 2): both arcs are inside", net.reduced(0, 0, 2), 3);
        net.into(1, 1);
        Check.same("reduced(0, 0, 2): no arc is inside", net.reduced(0, 0, 2), -1);
        Check.same("model(0): 0 and 2 are each both input and output", net.model(0), 2);
        net.arc(0, 2, 0.5);
        Check.same("reduced(0, 0, 2): the third arc is inside", net.reduced(0, 0, 2), 0.5);
        Check.same("model(0)", net.model(0), 3);
        net.into(2, 1);
        Check.same("reduced(1, 1, 2): the second arc is inside block 1", net.reduced(1, 1, 2), 2);
        Check.same("reduced(0, 0, 0)", net.reduced(0, 0, 0), 0);
    }

    /** "where arcs inside lead from the one to the other": a longer way that leaves the block does not count. */
    private static void waysThatLeaveTheBlock() {
        PathLists net = three();
        net.start(0, 0);
        net.end(2, 0);
        net.arc(0, 3, 50);
        net.arc(3, 2, 50);
        Check.same("reduced(0, 0, 2)", net.reduced(0, 0, 2), 3);
        net.into(3, 7);
        Check.same("reduced(0, 0, 2) when the way is over another block", net.reduced(0, 0, 2), 3);
        net.into(3, 0);
        Check.same("reduced(0, 0, 2) when the way is inside", net.reduced(0, 0, 2), 100);
    }

    /** Ways inside may go over other inputs and outputs. */
    private static void waysOverInputsAndOutputs() {
        PathLists net = three();
        for (int pin = 0; pin < 3; pin++) {
            net.start(pin, 0);
            net.end(pin, 0);
        }
        Check.same("reduced(0, 0, 2) over 1", net.reduced(0, 0, 2), 3);
        Check.same("model(0): six of nine, three of them with 0", net.model(0), 6);
        for (int pin = 0; pin < 3; pin++) {
            Check.same("reduced(0, " + pin + ", " + pin + ")", net.reduced(0, pin, pin), 0);
        }
    }

    /** A reduced arc of delay 0 is one; -1 is that there is none. */
    private static void delaysOfZero() {
        PathLists net = Nets.pins(3);
        net.arc(0, 1, 0);
        net.start(0, 0);
        net.end(1, 0);
        net.end(2, 0);
        for (int pin = 0; pin < 3; pin++) {
            net.into(pin, 2);
        }
        Check.same("reduced(2, 0, 1)", net.reduced(2, 0, 1), 0);
        Check.same("reduced(2, 0, 2): no arc leads there", net.reduced(2, 0, 2), -1);
        Check.same("model(2)", net.model(2), 1);
    }

    /** "its delay being the greatest sum of such arcs' delays": not the first one's, the last one's or the least. */
    private static void greatestSum() {
        PathLists net = Nets.pins(4);
        net.arc(0, 3, 4);
        net.arc(0, 1, 2);
        net.arc(1, 2, 2.125);
        net.arc(2, 3, 0);
        net.arc(0, 3, 4.125);
        net.arc(0, 3, 1);
        net.arc(0, 2, 3);
        net.start(0, 100);
        net.end(3, 50);
        for (int pin = 0; pin < 4; pin++) {
            net.into(pin, 0);
        }
        Check.same("reduced(0, 0, 3): over 1 and 2, or by arc 4", net.reduced(0, 0, 3), 4.125);
        net.whatIf(4, 4.25);
        Check.same("reduced(0, 0, 3) by arc 4", net.reduced(0, 0, 3), 4.25);
        net.whatIf(3, 0.25);
        Check.same("reduced(0, 0, 3) over 1 and 2", net.reduced(0, 0, 3), 4.375);
        net.whatIf(6, 1048576);
        Check.same("reduced(0, 0, 3) over 2", net.reduced(0, 0, 3), 1048576.25);
        net.back();
        net.back();
        net.back();
        Check.same("reduced(0, 0, 3) as it was", net.reduced(0, 0, 3), 4.125);
    }

    /** "for any two of these": one arc, however many ways there are. */
    private static void eachTwoOnce() {
        PathLists net = Nets.pins(4);
        net.start(0, 0);
        net.start(1, 0);
        net.end(2, 0);
        net.end(3, 0);
        for (int i = 0; i < 3; i++) {
            net.arc(0, 2, i);
            net.arc(0, 3, i);
            net.arc(1, 3, i);
        }
        for (int pin = 0; pin < 4; pin++) {
            net.into(pin, 4);
        }
        Check.same("model(4)", net.model(4), 3);
    }

    /** "a pin may be in one": when it comes into another one it is no longer in the first. */
    private static void onlyOneBlock() {
        PathLists net = three();
        net.start(0, 0);
        net.end(2, 0);
        for (int pin = 0; pin < 3; pin++) {
            Check.same("into(" + pin + ", 1)", net.into(pin, 1), true);
        }
        Check.same("model(0)", net.model(0), 0);
        Check.same("reduced(0, 0, 2)", net.reduced(0, 0, 2), -1);
        Check.same("model(1)", net.model(1), 1);
        Check.same("reduced(1, 0, 2)", net.reduced(1, 0, 2), 3);
        Check.same("into(0, 0): back again", net.into(0, 0), true);
        Check.same("into(0, 1): it is not in that", net.into(0, 1), true);
    }
}
