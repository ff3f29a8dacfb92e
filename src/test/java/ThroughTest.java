/** Promise 6: through. */
final class ThroughTest {
    private static final int NONE = PathLists.NONE;

    private ThroughTest() {
    }

    public static void main(String[] args) {
        answers();
        wrongInputs();
        orders();
        startAndEndPins();
        onlyThoseThatGoThroughCount();
        unrelatedPins();
        otherThings();
        ordersByTheirNumbers();
        firstAndLastOrder();
        allOrders();
        othersBetween();
        twoOrdersThatFollow();
        samePinNotFollowing();
        noneOfThatOrder();
        noneBetweenTwoOrders();
        startAndEndAtOnePin();
        pinsOfNoPath();
        arcsThatComeLater();
        eachGroup();
        Check.finish();
    }

    private static void answers() {
        PathLists net = Nets.diamond();
        Check.same("through(NONE, 3) with none", net.through(NONE, 3), false);
        Check.same("through(1, 3)", net.through(1, 3), true);
        Check.same("through(1, 3) once more", net.through(1, 3), false);
        Check.same("through 1", Nets.listed(net, 40), "4.0: 0 0 1 0");
        Check.same("through(1, 3) changes nothing", net.through(1, 3), false);
        Check.same("slack(0) is still listed", net.slack(0), 4);
        Check.same("through(2, 3) in its place", net.through(2, 3), true);
        Check.badState("slack(0) after through", () -> net.slack(0));
        Check.same("through 2", Nets.listed(net, 40), "6.5: 0 2 3 0");
        Check.same("through(NONE, 3)", net.through(NONE, 3), true);
        Check.badState("slack(0) after through(NONE)", () -> net.slack(0));
        Check.same("through none", Nets.listed(net, 40), "4.0: 0 0 1 0, 6.5: 0 2 3 0");
    }

    private static void wrongInputs() {
        PathLists net = Nets.diamond();
        net.run(1);
        Check.outOfBounds("through(4, 0)", () -> Check.number(net.through(4, 0)));
        Check.outOfBounds("through(-2, 0)", () -> Check.number(net.through(-2, 0)));
        Check.outOfBounds("through(4, 10)", () -> Check.number(net.through(4, 10)));
        Check.badArgument("through(0, 10)", () -> Check.number(net.through(0, 10)));
        Check.badArgument("through(0, -1)", () -> Check.number(net.through(0, -1)));
        Check.badArgument("through(NONE, 10)", () -> Check.number(net.through(NONE, 10)));
        Check.badArgument("through(NONE, MIN)", () -> Check.number(net.through(NONE, Integer.MIN_VALUE)));
        Check.same("slack(0): the calls that threw changed nothing", net.slack(0), 4);
        Check.same("through(0, 9)", net.through(0, 9), true);
        Check.same("through(0, 0)", net.through(0, 0), true);
    }

    private static void orders() {
        PathLists net = Nets.pins(4);
        net.arc(3, 2, 1);
        net.arc(2, 1, 1);
        net.arc(1, 0, 1);
        net.arc(3, 1, 5);
        net.start(3, 0);
        net.end(0, 0);
        net.through(2, 4);
        net.through(1, 7);
        Check.same("2, then 1", Nets.listed(net, 40), "-3.0: 0 0 1 2 0");
        net.through(2, 9);
        Check.same("2, then 1, then 2", Nets.listed(net, 40), "");
        net.through(NONE, 4);
        Check.same("1, then 2", Nets.listed(net, 40), "");
        net.through(1, 9);
        Check.same("1, then 1", Nets.listed(net, 40), "-6.0: 0 3 2 0, -3.0: 0 0 1 2 0");
        net.through(3, 0);
        net.through(0, 8);
        Check.same("3, then 1, then 0, then 1", Nets.listed(net, 40), "");
        net.through(0, 9);
        Check.same("3, then 1, then 0, then 0", Nets.listed(net, 40), "-6.0: 0 3 2 0, -3.0: 0 0 1 2 0");
        for (int order = 0; order < 10; order++) {
            net.through(2, order);
        }
        Check.same("2, ten times", Nets.listed(net, 40), "-3.0: 0 0 1 2 0");
    }

    private static void startAndEndPins() {
        PathLists net = Nets.pins(3);
        net.arc(0, 1, 1);
        net.arc(1, 2, 1);
        net.start(0, 0);
        net.start(1, 0);
        net.end(1, 0);
        net.end(2, 0);
        net.through(0, 0);
        Check.same("through the first start's pin", Nets.listed(net, 40), "-2.0: 0 0 1 1, -1.0: 0 0 0");
        net.through(2, 1);
        Check.same("through the last end's pin too", Nets.listed(net, 40), "-2.0: 0 0 1 1");
        net.through(1, 0);
        net.through(1, 1);
        Check.same("through the pin between", Nets.listed(net, 40),
            "-2.0: 0 0 1 1, -1.0: 0 0 0, -1.0: 1 1 1, 0.0: 1 0");
    }

    private static void onlyThoseThatGoThroughCount() {
        PathLists net = Nets.diamond();
        net.through(2, 0);
        Check.same("the first of those that go through", Nets.listed(net, 1), "6.5: 0 2 3 0");
    }

    private static void unrelatedPins() {
        PathLists net = Nets.diamond();
        net.through(1, 0);
        net.through(2, 1);
        Check.same("1, then 2 of the diamond", net.run(40), 0);
        net.through(2, 0);
        net.through(1, 1);
        Check.same("2, then 1 of the diamond", net.run(40), 0);
        net.pin();
        net.through(1, 0);
        net.through(4, 1);
        Check.same("1, then a pin that stands alone", net.run(40), 0);
    }

    /** 0, 1, .. 11 in a row, a start at 0, an end at 11. */
    private static PathLists row() {
        PathLists net = Nets.pins(12);
        for (int pin = 0; pin < 11; pin++) {
            net.arc(pin, pin + 1, 1);
        }
        net.start(0, 0);
        net.end(11, 11);
        return net;
    }

    /** "whether that is another thing than before": of this order, whatever is of the others. */
    private static void otherThings() {
        PathLists net = Nets.diamond();
        Check.same("through(1, 0)", net.through(1, 0), true);
        Check.same("through(1, 9): of another order", net.through(1, 9), true);
        Check.same("through(1, 0) once more", net.through(1, 0), false);
        Check.same("through(0, 0)", net.through(0, 0), true);
        Check.same("through(1, 9) once more", net.through(1, 9), false);
        Check.same("through(NONE, 9)", net.through(NONE, 9), true);
        Check.same("through(NONE, 9) once more", net.through(NONE, 9), false);
        Check.same("through(0, 0) once more", net.through(0, 0), false);
    }

    /** "by rising orders": not by when they were told, nor by the pins' numbers. */
    private static void ordersByTheirNumbers() {
        PathLists net = row();
        net.through(7, 6);
        net.through(2, 3);
        net.through(4, 5);
        Check.same("2, then 4, then 7", net.run(40), 1);
        net.through(5, 2);
        Check.same("5, then 2, then 4, then 7", net.run(40), 0);
        net.through(NONE, 3);
        net.through(NONE, 5);
        Check.same("5, then 7", net.run(40), 1);
    }

    /** "an order 0 .. 9" */
    private static void firstAndLastOrder() {
        PathLists net = row();
        net.through(3, 1);
        net.through(3, 8);
        net.through(4, 0);
        Check.same("4 of order 0 is behind 3 of order 1", net.run(40), 0);
        net.through(2, 0);
        Check.same("2 of order 0 is before 3 of order 1", net.run(40), 1);
        net.through(2, 9);
        Check.same("2 of order 9 is before 3 of order 8", net.run(40), 0);
        net.through(4, 9);
        Check.same("4 of order 9 is behind 3 of order 8", net.run(40), 1);
    }

    private static void allOrders() {
        PathLists net = row();
        for (int order = 0; order < 10; order++) {
            net.through(order + 1, order);
        }
        Check.same("1, 2, .. 10 in a row", net.run(40), 1);
        for (int order = 0; order < 9; order++) {
            net.through(order + 2, order);
            net.through(order + 1, order + 1);
            Check.same("orders " + order + " and the next one the other way round", net.run(40), 0);
            net.through(order + 1, order);
            net.through(order + 2, order + 1);
            Check.same("as before", net.run(40), 1);
        }
    }

    /** "others may stand between", and before and behind. */
    private static void othersBetween() {
        PathLists net = row();
        net.arc(1, 5, 2);
        net.arc(5, 9, 2);
        net.through(1, 0);
        net.through(9, 1);
        Check.same("all ways from 1 to 9", net.run(40), 4);
        net.through(5, 1);
        Check.same("all ways through 1 and 5", net.run(40), 4);
        net.through(6, 2);
        Check.same("all ways through 1, 5 and 6", net.run(40), 2);
        net.through(3, 1);
        Check.same("all ways through 1, 3 and 6", net.run(40), 1);
    }

    /** "the same pin with two orders that follow one another need be there once for both" */
    private static void twoOrdersThatFollow() {
        for (int order = 0; order < 9; order++) {
            PathLists net = row();
            net.through(5, order);
            net.through(5, order + 1);
            Check.same("5 of orders " + order + " and " + (order + 1), net.run(40), 1);
        }
        PathLists net = row();
        net.through(2, 1);
        net.through(5, 2);
        net.through(5, 6);
        net.through(8, 7);
        Check.same("5 of orders 2 and 6 with none between", net.run(40), 1);
        net.through(5, 4);
        Check.same("5 of orders 2, 4 and 6", net.run(40), 1);
    }

    /** The same pin with another one's order between would have to be there twice. */
    private static void samePinNotFollowing() {
        PathLists net = row();
        net.through(5, 2);
        net.through(7, 3);
        net.through(5, 4);
        Check.same("5, then 7, then 5", net.run(40), 0);
        net.through(3, 3);
        Check.same("5, then 3, then 5", net.run(40), 0);
        net.through(5, 3);
        Check.same("5, then 5, then 5", net.run(40), 1);
    }

    /** "through none of that order": those of the others stay. */
    private static void noneOfThatOrder() {
        PathLists net = Nets.diamond();
        net.through(1, 2);
        net.through(2, 3);
        Check.same("1, then 2", net.run(40), 0);
        net.through(NONE, 2);
        Check.same("2 alone", Nets.listed(net, 40), "6.5: 0 2 3 0");
        net.through(1, 2);
        net.through(NONE, 3);
        Check.same("1 alone", Nets.listed(net, 40), "4.0: 0 0 1 0");
    }

    /**
     * "through none of that order": what is not set, or was taken away again, stands between no two orders. So any two
     * orders of the same pin follow one another while none is set between them.
     */
    private static void noneBetweenTwoOrders() {
        for (int low = 0; low < 10; low++) {
            for (int high = low + 1; high < 10; high++) {
                PathLists net = row();
                net.through(5, low);
                net.through(5, high);
                String pair = "5 of orders " + low + " and " + high;
                Check.same(pair + ", none set between", net.run(40), 1);
                for (int between = low + 1; between < high; between++) {
                    net.through(7, between);
                    Check.same(pair + ", 7 of order " + between, net.run(40), 0);
                    net.through(NONE, between);
                    Check.same(pair + ", none of order " + between + " again", net.run(40), 1);
                }
            }
        }
    }

    /** A path without arcs has one pin: it goes through that one, of as many orders as may be, and through no other. */
    private static void startAndEndAtOnePin() {
        PathLists net = Nets.pins(2);
        net.start(1, 0);
        net.end(1, 3);
        net.arc(0, 1, 1);
        net.through(1, 0);
        net.through(1, 9);
        Check.same("through its pin", Nets.listed(net, 40), "3.0: 0 0");
        net.through(0, 4);
        Check.same("through another pin, too", net.run(40), 0);
    }

    /** Pins before the start, behind the end, and beside the way. */
    private static void pinsOfNoPath() {
        PathLists net = Nets.pins(5);
        net.arc(0, 1, 1);
        net.arc(1, 2, 1);
        net.arc(2, 3, 1);
        net.start(1, 0);
        net.end(2, 0);
        for (int pin : new int[] {0, 3, 4}) {
            net.through(pin, 5);
            Check.same("through " + pin, net.run(40), 0);
        }
        for (int pin : new int[] {1, 2}) {
            net.through(pin, 5);
            Check.same("through " + pin, net.run(40), 1);
        }
    }

    private static void arcsThatComeLater() {
        PathLists net = Nets.pins(4);
        net.start(3, 0);
        net.end(0, 10);
        net.through(1, 3);
        net.through(2, 2);
        net.arc(3, 0, 1);
        Check.same("without arcs to 2 and 1", net.run(40), 0);
        net.arc(1, 0, 1);
        net.arc(3, 2, 1);
        net.arc(3, 1, 1);
        Check.same("without an arc from 2 to 1", net.run(40), 0);
        net.arc(2, 1, 1);
        Check.same("with all of them", Nets.listed(net, 40), "7.0: 0 2 4 1 0");
    }

    /** "The k first paths of each group, that go through": those that do not take no other's place. */
    private static void eachGroup() {
        PathLists net = Nets.diamond();
        net.end(3, 20);
        net.end(1, 0);
        net.group(1, 1);
        net.group(2, 2);
        net.through(2, 7);
        Check.same("one of each group that goes through 2", Nets.listed(net, 1), "6.5: 0 2 3 0, 16.5: 0 2 3 1");
    }
}
