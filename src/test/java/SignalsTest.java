/** Promises 11 to 14: time, delay, arrival, simulate. */
public final class SignalsTest {
    private static final Checks CHECKS = new Checks();

    public static void main(String[] args) {
        timeOfKinds();
        timeThrows();
        delayOfNets();
        delayThrows();
        arrivalOfNets();
        arrivalTakesTheLatestInput();
        arrivalTakesTheGreatestSum();
        arrivalAddsInDoublesInOrder();
        arrivalAgainstTheNumbers();
        arrivalTakesTheTimeOfItsKind();
        arrivalThrows();
        arrivalBehindALoop();
        simulateKinds();
        simulateAllBits();
        simulateAgainstTheNumbers();
        simulateLoops();
        CHECKS.end();
    }

    /** NAND of 0 and 1 to 2 above, COPY of 2 to 3 below. */
    private static ChipForge wide() {
        ChipForge x = new ChipForge();
        x.gate(2, 0, 1, 2, 0);
        x.gate(1, 2, 0, 3, 1);
        return x;
    }

    private static void timeOfKinds() {
        ChipForge x = new ChipForge();
        for (int kind = 0; kind < 4; kind++) {
            int k = kind;
            CHECKS.due("at first", 1.0, () -> x.time(k, 2.5 + k));
        }
        for (int kind = 0; kind < 4; kind++) {
            int k = kind;
            CHECKS.due("what it was", 2.5 + k, () -> x.time(k, 0.0));
            CHECKS.due("0 is allowed", 0.0, () -> x.time(k, 100.0));
            CHECKS.due("100 is allowed", 100.0, () -> x.time(k, 1.0));
        }
    }

    private static void timeThrows() {
        ChipForge x = new ChipForge();
        x.time(0, 7.0);
        double[] bad = {
            -1.0, -Double.MIN_VALUE, 100.00000000000001, 101.0, Double.MAX_VALUE, Double.NaN,
            Double.POSITIVE_INFINITY, Double.NEGATIVE_INFINITY
        };
        for (double v : bad) {
            CHECKS.argument("time(0, " + v + ")", () -> x.time(0, v));
        }
        for (int kind : new int[] {-1, 4, Integer.MIN_VALUE, Integer.MAX_VALUE}) {
            CHECKS.argument("time(" + kind + ", 1.0)", () -> x.time(kind, 1.0));
        }
        CHECKS.due("a refused time changes nothing", 7.0, () -> x.time(0, 7.0));
        x.route();
        x.time(1, 3.0);
        CHECKS.due("time keeps the routing", 0, () -> x.mask(0, 0));
    }

    private static void delayOfNets() {
        ChipForge x = wide();
        x.route();
        CHECKS.due("length 2, one pin", 1.0, () -> x.delay(0));
        CHECKS.due("length 4, one pin", 3.0, () -> x.delay(1));
        CHECKS.due("length 6, two pins", 7.5, () -> x.delay(2));
        CHECKS.due("not wired", 0.0, () -> x.delay(3));
        CHECKS.due("no pins", 0.0, () -> x.delay(11));
        x.damage(1, 0, 0);
        x.damage(2, 0, 7);
        CHECKS.due("damage does not change it", 1.0, () -> x.delay(0));
        CHECKS.due("nor this", 3.0, () -> x.delay(1));
    }

    private static void delayThrows() {
        ChipForge x = wide();
        for (int n : new int[] {-1, 12, Integer.MIN_VALUE, Integer.MAX_VALUE}) {
            CHECKS.argument("not routed: delay(" + n + ")", () -> x.delay(n));
        }
        CHECKS.state("not routed: delay(0)", () -> x.delay(0));
        CHECKS.state("not routed: delay(11)", () -> x.delay(11));
        x.route();
        CHECKS.argument("delay(12)", () -> x.delay(12));
        CHECKS.argument("delay(-1)", () -> x.delay(-1));
    }

    private static void arrivalOfNets() {
        ChipForge x = wide();
        x.route();
        CHECKS.due("not driven", 0.0, () -> x.arrival(0));
        CHECKS.due("no pins", 0.0, () -> x.arrival(11));
        CHECKS.due("behind one gate", 4.0, () -> x.arrival(2));
        CHECKS.due("behind two gates", 12.5, () -> x.arrival(3));
        x.damage(3, 1, 0);
        CHECKS.due("damage does not change it", 12.5, () -> x.arrival(3));
    }

    private static void arrivalTakesTheLatestInput() {
        ChipForge x = new ChipForge();
        x.gate(2, 1, 0, 2, 0);
        x.gate(1, 2, 0, 3, 1);
        CHECKS.due("inputs changed: route()", 3, x::route);
        CHECKS.due("delay of 0", 1.875, () -> x.delay(0));
        CHECKS.due("delay of 1", 1.875, () -> x.delay(1));
        CHECKS.due("the same from both", 2.875, () -> x.arrival(2));

        ChipForge y = new ChipForge();
        y.gate(0, 0, 0, 1, 0);
        y.gate(3, 1, 2, 3, 0);
        y.route();
        y.time(0, 50.0);
        double first = y.arrival(1) + y.delay(1);
        CHECKS.due("the first input is later", first + 1.0, () -> y.arrival(3));
        CHECKS.due("the time counts", 50.0 + y.delay(0), () -> y.arrival(1));
        y.clear();
        y.gate(0, 0, 0, 1, 0);
        y.gate(3, 2, 1, 3, 0);
        y.route();
        double second = y.arrival(1) + y.delay(1);
        CHECKS.due("the second input is later", second + 1.0, () -> y.arrival(3));
    }

    /** The greatest ARRIVAL + DELAY is neither that of the greatest ARRIVAL nor that of both apart. */
    private static void arrivalTakesTheGreatestSum() {
        for (int first = 0; first < 2; first++) {
            ChipForge x = new ChipForge();
            x.gate(1, 0, 0, 1, 0);
            x.gate(2, first == 0 ? 1 : 5, first == 0 ? 5 : 1, 2, 0);
            x.gate(1, 5, 0, 3, 0);
            x.route();
            CHECKS.due("arrival of one input", 2.0, () -> x.arrival(1));
            CHECKS.due("that of the other one", 0.0, () -> x.arrival(5));
            CHECKS.due("which is far", true, () -> x.delay(5) > 2.0 + x.delay(1));
            double sum = x.delay(5);
            CHECKS.due("the greatest sum", sum + 1.0, () -> x.arrival(2));
        }
    }

    /** With this time another order of the additions gives other doubles. */
    private static void arrivalAddsInDoublesInOrder() {
        ChipForge x = Chips.routed(Chips.chain());
        x.time(0, 3.3);
        double late = 0.0;
        double timeBeforeDelay = 0.0;
        double delayAndTimeFirst = 0.0;
        for (int net = 0; net < 12; net++) {
            int n = net;
            double due = late;
            CHECKS.due("ARRIVAL + DELAY, then + TIME: " + n, due, () -> x.arrival(n));
            double wire = x.delay(n);
            late = late + wire + 3.3;
            timeBeforeDelay = timeBeforeDelay + 3.3 + wire;
            delayAndTimeFirst = delayAndTimeFirst + (wire + 3.3);
        }
        double last = x.arrival(11) + x.delay(11) + 3.3;
        double other = timeBeforeDelay;
        double another = delayAndTimeFirst;
        CHECKS.due("the order can be told", true, () -> last != other && last != another);
    }

    /** Each gate hangs on one that comes later. */
    private static void arrivalAgainstTheNumbers() {
        ChipForge x = new ChipForge();
        for (int n = 0; n < 7; n++) {
            x.gate(0, n + 1, 0, n, 1);
        }
        x.route();
        double late = 0.0;
        for (int net = 7; net >= 0; net--) {
            int n = net;
            double due = late;
            CHECKS.due("arrival against the numbers: " + n, due, () -> x.arrival(n));
            late = late + x.delay(n) + 1.0;
        }
        CHECKS.due("it goes up", true, () -> x.arrival(0) > 7.0);
    }

    private static void arrivalTakesTheTimeOfItsKind() {
        for (int kind = 0; kind < 4; kind++) {
            ChipForge x = new ChipForge();
            x.gate(kind, 0, 0, 1, 0);
            x.route();
            double wire = x.delay(0);
            for (int other = 0; other < 4; other++) {
                x.time(other, other == kind ? 0.375 : 99.0);
            }
            CHECKS.due("the time of kind " + kind, wire + 0.375, () -> x.arrival(1));
        }
    }

    private static void arrivalThrows() {
        ChipForge x = new ChipForge();
        x.gate(1, 0, 0, 0, 0);
        CHECKS.argument("not routed: arrival(12)", () -> x.arrival(12));
        CHECKS.argument("not routed: arrival(-1)", () -> x.arrival(-1));
        CHECKS.state("not routed, a loop", () -> x.arrival(0));
        x.route();
        CHECKS.argument("arrival(12)", () -> x.arrival(12));
        CHECKS.argument("arrival(min)", () -> x.arrival(Integer.MIN_VALUE));
        CHECKS.arithmetic("a loop", () -> x.arrival(0));
    }

    private static void arrivalBehindALoop() {
        ChipForge x = new ChipForge();
        x.gate(0, 0, 0, 1, 0);
        x.gate(0, 1, 0, 2, 0);
        x.gate(2, 2, 5, 0, 0);
        x.gate(3, 6, 2, 3, 0);
        x.gate(1, 5, 0, 4, 1);
        x.route();
        for (int net = 0; net < 4; net++) {
            int n = net;
            CHECKS.arithmetic("on the loop or behind it: " + n, () -> x.arrival(n));
        }
        CHECKS.due("beside it", x.delay(5) + 1.0, () -> x.arrival(4));
        CHECKS.due("before it", 0.0, () -> x.arrival(5));
        CHECKS.due("not there", 0.0, () -> x.arrival(11));
    }

    private static void simulateKinds() {
        int[][] due = {{1, 0, 1, 0}, {0, 1, 0, 1}, {1, 1, 1, 0}, {1, 0, 0, 0}};
        for (int kind = 0; kind < 4; kind++) {
            ChipForge x = new ChipForge();
            x.gate(kind, 0, 1, 2, 1);
            for (int bits = 0; bits < 4; bits++) {
                int v = bits;
                int want = v + 4 * due[kind][v];
                CHECKS.due("kind " + kind + " of " + v, want, () -> x.simulate(v));
                CHECKS.due("a driven net has its own bit", want, () -> x.simulate(v + 4));
            }
        }
    }

    private static void simulateAllBits() {
        ChipForge x = new ChipForge();
        CHECKS.due("nothing is driven", 0xfff, () -> x.simulate(-1));
        CHECKS.due("bits above 11 go", 0, () -> x.simulate(0x12345000));
        CHECKS.due("all nets show", 0x678, () -> x.simulate(0x12345678));
        x.gate(0, 11, 0, 0, 0);
        CHECKS.due("net 11 is on", 0xffe, () -> x.simulate(-1));
        CHECKS.due("net 11 is off", 1, () -> x.simulate(0));
        x.route();
        CHECKS.due("routed too", 1, () -> x.simulate(0));
    }

    /** Each gate hangs on one that comes later. */
    private static void simulateAgainstTheNumbers() {
        ChipForge x = new ChipForge();
        for (int n = 0; n < 11; n++) {
            x.gate(0, n + 1, 0, n, n % 2);
        }
        CHECKS.due("eleven inverters of 1", 0xaaa, () -> x.simulate(0x800));
        CHECKS.due("eleven inverters of 0", 0x555, () -> x.simulate(0x7ff));
        x.gate(1, 0, 0, 11, 0);
        CHECKS.arithmetic("closed to a ring", () -> x.simulate(0));
    }

    private static void simulateLoops() {
        ChipForge x = new ChipForge();
        x.gate(2, 0, 1, 2, 0);
        x.gate(3, 3, 4, 4, 1);
        CHECKS.arithmetic("a net of its own input", () -> x.simulate(1));
        x.clear();
        x.gate(2, 0, 3, 2, 0);
        x.gate(2, 1, 2, 3, 0);
        CHECKS.arithmetic("a latch", () -> x.simulate(0));
        x.clear();
        CHECKS.due("no gates, no loop", 9, () -> x.simulate(9));
    }
}
