import java.util.List;
import java.util.function.Supplier;

/** The boundary cases of the terms of delays and arrivals, and of promises 11 to 14. */
public final class EdgesOfSignalsTest {
    private static final Checks CHECKS = new Checks();
    private static final int[] FAR = {Integer.MIN_VALUE, -2, 99, Integer.MAX_VALUE};

    public static void main(String[] args) {
        timeAtFirst();
        timesThatAreTaken();
        timesThatAreNot();
        kindsOfTimes();
        timeStays();
        timeOfNothingAndOfMost();
        netsOfDelays();
        delayWithoutRouting();
        delayOfNetsThatAreNotWired();
        delayOfTheLeastAndTheMost();
        netsOfArrivals();
        arrivalWithoutRouting();
        arrivalOfNetsThatAreNotDriven();
        arrivalFromTheFirstInputOn();
        arrivalBehindElevenGates();
        arrivalOfANetOfItsOwn();
        arrivalOnALoop();
        arrivalOnALoopOfAll();
        arrivalBehindALoop();
        bitsOfTheNets();
        bitsOfDrivenNets();
        levelsOfTheInputs();
        simulateWithoutRouting();
        simulateElevenGates();
        simulateANetOfItsOwn();
        simulateALoopOfAll();
        simulateBesideALoop();
        CHECKS.end();
    }

    private static ChipForge loopRouted() {
        return Chips.routed(Chips.loop());
    }

    private static void timeAtFirst() {
        CHECKS.about("GATES of each KIND need a TIME (1.0 at first)");
        for (int kind = 0; kind < 4; kind++) {
            int k = kind;
            CHECKS.due("time(" + k + ", 5.0)", 1.0, () -> new ChipForge().time(k, 5.0));
        }
    }

    private static void timesThatAreTaken() {
        CHECKS.about("v 0 to 100: what it was");
        double[] good = {
            0.0, Double.MIN_VALUE, 0.1, Math.nextDown(100.0), 100.0, -0.0, 1.0
        };
        for (int kind = 0; kind < 4; kind++) {
            int k = kind;
            ChipForge x = new ChipForge();
            double before = 1.0;
            for (double v : good) {
                double was = before;
                CHECKS.due("time(" + k + ", " + v + ")", was, () -> x.time(k, v));
                before = v;
            }
        }
    }

    private static void timesThatAreNot() {
        CHECKS.about("IllegalArgumentException if v not 0 to 100");
        double[] bad = {
            -Double.MIN_VALUE, -1.0, Math.nextUp(100.0), 101.0, Double.MAX_VALUE,
            -Double.MAX_VALUE, Double.NaN, Double.POSITIVE_INFINITY, Double.NEGATIVE_INFINITY
        };
        for (int kind = 0; kind < 4; kind++) {
            int k = kind;
            for (double v : bad) {
                CHECKS.refused("time(" + k + ", " + v + ")", Checks.ARGUMENT, Chips::smallRouted,
                        x -> x.time(k, v));
            }
        }
        ChipForge y = new ChipForge();
        y.time(3, 100.0);
        CHECKS.argument("time(3, 101.0)", () -> y.time(3, 101.0));
        CHECKS.due("what it was is that of the latest one taken", 100.0, () -> y.time(3, 0.0));
    }

    private static void kindsOfTimes() {
        CHECKS.about("IllegalArgumentException if kind is not 0 to 3");
        ChipForge x = new ChipForge();
        CHECKS.due("time(0, 2.0)", 1.0, () -> x.time(0, 2.0));
        CHECKS.due("time(3, 5.0)", 1.0, () -> x.time(3, 5.0));
        CHECKS.due("time(0, 2.0) again", 2.0, () -> x.time(0, 2.0));
        CHECKS.due("the others stay", 1.0, () -> x.time(1, 3.0));
        CHECKS.due("the others stay", 1.0, () -> x.time(2, 4.0));
        CHECKS.due("time(3, 5.0) again", 5.0, () -> x.time(3, 5.0));
        CHECKS.refused("time(-1, 2.0)", Checks.ARGUMENT, Chips::smallRouted, y -> y.time(-1, 2.0));
        CHECKS.refused("time(4, 2.0)", Checks.ARGUMENT, Chips::smallRouted, y -> y.time(4, 2.0));
        CHECKS.refused("time(4, -1.0)", Checks.ARGUMENT, Chips::smallRouted, y -> y.time(4, -1.0));
        for (int bad : FAR) {
            CHECKS.refused("time(" + bad + ", 2.0)", Checks.ARGUMENT, Chips::smallRouted,
                    y -> y.time(bad, 2.0));
        }
    }

    private static void timeStays() {
        CHECKS.about("The TIME of GATES of a KIND: what it was: gate, route and clear leave it");
        ChipForge x = Chips.small();
        x.time(0, 7.5);
        x.route();
        CHECKS.due("time does not undo the routing", 1.0, () -> x.time(1, 8.5));
        CHECKS.due("still routed", 4, () -> x.mask(1, 1));
        x.gate(0, 5, 0, 6, 0);
        x.clear();
        CHECKS.due("time(0, 1.0)", 7.5, () -> x.time(0, 1.0));
        CHECKS.due("time(1, 1.0)", 8.5, () -> x.time(1, 1.0));
        CHECKS.alike("as new", new ChipForge(), x);
    }

    private static void timeOfNothingAndOfMost() {
        CHECKS.about("and then + its TIME: 0 and 100");
        ChipForge x = Chips.smallRouted();
        double wires = x.delay(0) + x.delay(1);
        CHECKS.due("the wires", 5.0, () -> wires);
        CHECKS.due("1.0 at first", 7.0, () -> x.arrival(2));
        x.time(0, 0.0);
        CHECKS.due("INVERT needs no time", 6.0, () -> x.arrival(2));
        x.time(1, 0.0);
        CHECKS.due("neither does COPY", 5.0, () -> x.arrival(2));
        x.time(0, 100.0);
        x.time(1, 100.0);
        CHECKS.due("both need 100", 205.0, () -> x.arrival(2));
        x.time(2, 50.0);
        x.time(3, 50.0);
        CHECKS.due("no other kind counts", 205.0, () -> x.arrival(2));
    }

    private static void netsOfDelays() {
        CHECKS.about("delay: IllegalArgumentException if n is not 0 to 11");
        CHECKS.due("delay(0)", 1.0, () -> Chips.smallRouted().delay(0));
        CHECKS.due("delay(11)", 0.0, () -> Chips.smallRouted().delay(11));
        for (Supplier<ChipForge> maker : makers()) {
            CHECKS.refused("delay(-1)", Checks.ARGUMENT, maker, x -> x.delay(-1));
            CHECKS.refused("delay(12)", Checks.ARGUMENT, maker, x -> x.delay(12));
            for (int bad : FAR) {
                CHECKS.refused("delay(" + bad + ")", Checks.ARGUMENT, maker, x -> x.delay(bad));
            }
        }
    }

    /** Wrong numbers are refused alike by a new object, one with gates and a routed one. */
    private static List<Supplier<ChipForge>> makers() {
        return List.of(ChipForge::new, Chips::small, Chips::smallRouted);
    }

    private static void delayWithoutRouting() {
        CHECKS.about("delay: IllegalStateException if nothing is routed");
        for (int n : new int[] {0, 11}) {
            CHECKS.refused("new: delay(" + n + ")", Checks.STATE, ChipForge::new,
                    x -> x.delay(n));
            CHECKS.refused("with gates: delay(" + n + ")", Checks.STATE, Chips::small,
                    x -> x.delay(n));
        }
        ChipForge x = Chips.smallRouted();
        x.gate(0, 5, 0, 6, 0);
        CHECKS.state("behind a gate", () -> x.delay(0));
        x.clear();
        CHECKS.state("cleared", () -> x.delay(0));
    }

    private static void delayOfNetsThatAreNotWired() {
        CHECKS.about("its DELAY ..; 0 for others");
        CHECKS.due("one pin", 0.0, () -> Chips.smallRouted().delay(2));
        CHECKS.due("no pins", 0.0, () -> Chips.smallRouted().delay(3));
        CHECKS.due("no gates", 0.0, () -> Chips.emptyRouted().delay(0));
    }

    private static void delayOfTheLeastAndTheMost() {
        CHECKS.about("its DELAY 0.25 * LENGTH * (0.5 * LENGTH + PINS)");
        CHECKS.due("length 2, one pin", 1.0, () -> Chips.smallRouted().delay(0));
        CHECKS.due("length 3, two pins", 2.625, () -> Chips.routed(Chips.narrow()).delay(1));
        CHECKS.due("length 46, 25 pins", 552.0, () -> Chips.routed(Chips.full()).delay(0));
        ChipForge x = Chips.routed(Chips.narrow());
        for (int line = 0; line < 4; line++) {
            for (int column = 0; column < 24; column++) {
                x.damage(line, column, 7);
            }
        }
        CHECKS.due("(as it was routed)", 2.625, () -> x.delay(1));
    }

    private static void netsOfArrivals() {
        CHECKS.about("arrival: thrown as by delay: IllegalArgumentException if n is not 0 to 11");
        CHECKS.due("arrival(0)", 0.0, () -> Chips.smallRouted().arrival(0));
        CHECKS.due("arrival(11)", 0.0, () -> Chips.smallRouted().arrival(11));
        for (Supplier<ChipForge> maker : makers()) {
            CHECKS.refused("arrival(-1)", Checks.ARGUMENT, maker, x -> x.arrival(-1));
            CHECKS.refused("arrival(12)", Checks.ARGUMENT, maker, x -> x.arrival(12));
            for (int bad : FAR) {
                CHECKS.refused("arrival(" + bad + ")", Checks.ARGUMENT, maker,
                        x -> x.arrival(bad));
            }
        }
        CHECKS.refused("beside a loop: arrival(12)", Checks.ARGUMENT,
                EdgesOfSignalsTest::loopRouted, x -> x.arrival(12));
    }

    private static void arrivalWithoutRouting() {
        CHECKS.about("arrival: thrown as by delay: IllegalStateException if nothing is routed");
        for (int n : new int[] {0, 11}) {
            CHECKS.refused("new: arrival(" + n + ")", Checks.STATE, ChipForge::new,
                    x -> x.arrival(n));
            CHECKS.refused("with gates: arrival(" + n + ")", Checks.STATE, Chips::small,
                    x -> x.arrival(n));
            CHECKS.refused("with a loop: arrival(" + n + ")", Checks.STATE, Chips::loop,
                    x -> x.arrival(n));
        }
        ChipForge x = Chips.smallRouted();
        x.gate(0, 5, 0, 6, 0);
        CHECKS.state("behind a gate", () -> x.arrival(1));
        x.clear();
        CHECKS.state("cleared", () -> x.arrival(1));
    }

    private static void arrivalOfNetsThatAreNotDriven() {
        CHECKS.about("THE ARRIVAL at a NET that is not DRIVEN is 0");
        CHECKS.due("from outside", 0.0, () -> Chips.smallRouted().arrival(0));
        CHECKS.due("no pins", 0.0, () -> Chips.smallRouted().arrival(3));
        CHECKS.due("no gates", 0.0, () -> Chips.emptyRouted().arrival(0));
        for (int net = 0; net < 12; net++) {
            int n = net;
            int other = (n + 1) % 12;
            ChipForge x = Chips.routed(Chips.of(new int[] {0, other, 0, n, 0}));
            CHECKS.due("driven: arrival(" + n + ")", 2.0, () -> x.arrival(n));
            x.clear();
            x.gate(0, n, 0, other, 0);
            x.route();
            CHECKS.due("driven no more: arrival(" + n + ")", 0.0, () -> x.arrival(n));
            CHECKS.due("behind that", 2.0, () -> x.arrival(other));
        }
    }

    private static void arrivalFromTheFirstInputOn() {
        CHECKS.about("the greatest ARRIVAL + DELAY of the INPUTS (from the first on)");
        ChipForge x = Chips.routed(Chips.of(new int[] {2, 0, 1, 2, 0}));
        CHECKS.due("delay of the first", 1.0, () -> x.delay(0));
        CHECKS.due("delay of the second", 3.0, () -> x.delay(1));
        CHECKS.due("the second is greater", 4.0, () -> x.arrival(2));
        ChipForge y = Chips.routed(Chips.of(new int[][] {{0, 3, 0, 0, 0}, {2, 0, 1, 2, 0}}));
        double first = y.delay(3) + 1.0 + y.delay(0) + 1.0;
        y.time(0, 100.0);
        CHECKS.due("the first is greater", first + 99.0, () -> y.arrival(2));
        ChipForge z = Chips.routed(Chips.of(new int[] {3, 5, 5, 6, 1}));
        double same = z.delay(5);
        CHECKS.due("both are the same", same + 1.0, () -> z.arrival(6));
    }

    private static void arrivalBehindElevenGates() {
        CHECKS.about("of another one the greatest ARRIVAL ..: as many GATES as there can be");
        ChipForge x = Chips.chain();
        CHECKS.due("it is routed", true, () -> x.route() > 0);
        double late = 0.0;
        for (int net = 0; net < 12; net++) {
            int n = net;
            double due = late;
            CHECKS.due("arrival(" + n + ")", due, () -> x.arrival(n));
            late = late + x.delay(n) + 1.0;
        }
        CHECKS.due("it goes up", true, () -> x.arrival(11) > 11.0);
    }

    private static void arrivalOfANetOfItsOwn() {
        CHECKS.about("ArithmeticException if it depends on itself: one GATE");
        for (int kind = 0; kind < 4; kind++) {
            int k = kind;
            CHECKS.refused("kind " + k, Checks.ARITHMETIC,
                    () -> Chips.routed(Chips.of(new int[] {k, 0, 0, 0, 0})), x -> x.arrival(0));
        }
        CHECKS.refused("by its second input", Checks.ARITHMETIC,
                () -> Chips.routed(Chips.of(new int[] {2, 1, 0, 0, 0})), x -> x.arrival(0));
        CHECKS.refused("by its first input", Checks.ARITHMETIC,
                () -> Chips.routed(Chips.of(new int[] {2, 0, 1, 0, 0})), x -> x.arrival(0));
        ChipForge y = Chips.routed(Chips.of(new int[] {0, 1, 0, 0, 0}));
        CHECKS.due("b is no input of INVERT", y.delay(1) + 1.0, () -> y.arrival(0));
    }

    private static void arrivalOnALoop() {
        CHECKS.about("ArithmeticException if it depends on itself (by any way): two GATES");
        for (int n = 0; n < 2; n++) {
            int net = n;
            CHECKS.refused("arrival(" + n + ")", Checks.ARITHMETIC, EdgesOfSignalsTest::loopRouted,
                    x -> x.arrival(net));
        }
        ChipForge x = loopRouted();
        CHECKS.arithmetic("arrival(0)", () -> x.arrival(0));
        CHECKS.due("beside it", x.delay(4) + 1.0, () -> x.arrival(3));
        CHECKS.due("not driven", 0.0, () -> x.arrival(4));
        CHECKS.due("no pins", 0.0, () -> x.arrival(11));
        CHECKS.due("still routed", 0, () -> x.faults(false));
    }

    private static void arrivalOnALoopOfAll() {
        CHECKS.about("ArithmeticException if it depends on itself (by any way): twelve GATES");
        for (int net = 0; net < 12; net++) {
            int n = net;
            CHECKS.refused("arrival(" + n + ")", Checks.ARITHMETIC,
                    () -> Chips.routed(Chips.ring()), x -> x.arrival(n));
        }
    }

    private static void arrivalBehindALoop() {
        CHECKS.about("ArithmeticException: a NET behind one that depends on itself");
        CHECKS.refused("arrival(2)", Checks.ARITHMETIC, EdgesOfSignalsTest::loopRouted,
                x -> x.arrival(2));
    }

    private static void bitsOfTheNets() {
        CHECKS.about("those that are not DRIVEN have the BITS of v (NET n BIT n): all BITS");
        ChipForge x = new ChipForge();
        int[][] pairs = {
            {0, 0}, {1, 1}, {0x800, 0x800}, {0xfff, 0xfff}, {0x1000, 0}, {0x1fff, 0xfff},
            {-1, 0xfff}, {Integer.MIN_VALUE, 0}, {Integer.MAX_VALUE, 0xfff}, {-0x1000, 0}
        };
        for (int[] pair : pairs) {
            CHECKS.due("simulate(" + pair[0] + ")", pair[1], () -> x.simulate(pair[0]));
        }
    }

    private static void bitsOfDrivenNets() {
        CHECKS.about("those that are not DRIVEN have the BITS of v: others have not");
        ChipForge x = Chips.of(new int[][] {{0, 5, 0, 0, 0}, {1, 5, 0, 11, 0}});
        CHECKS.due("simulate(0)", 1, () -> x.simulate(0));
        CHECKS.due("simulate(0x801)", 1, () -> x.simulate(0x801));
        CHECKS.due("simulate(0x20)", 0x820, () -> x.simulate(0x20));
        CHECKS.due("simulate(-1)", 0xffe, () -> x.simulate(-1));
    }

    private static void levelsOfTheInputs() {
        CHECKS.about("0 INVERT, 1 COPY, 2 NAND, 3 NOR: from no INPUT on to all of them on");
        int[][] due = {{1, 0, 1, 0}, {0, 1, 0, 1}, {1, 1, 1, 0}, {1, 0, 0, 0}};
        for (int kind = 0; kind < 4; kind++) {
            ChipForge x = Chips.of(new int[] {kind, 0, 1, 11, 0});
            for (int inputs = 0; inputs < 4; inputs++) {
                int v = inputs;
                int want = v | due[kind][v] << 11;
                CHECKS.due("kind " + kind + ", inputs " + v, want, () -> x.simulate(v));
            }
        }
    }

    private static void simulateWithoutRouting() {
        CHECKS.about("simulate: ArithmeticException alone, also if nothing is routed");
        ChipForge x = Chips.small();
        CHECKS.due("before", 6, () -> x.simulate(0));
        x.route();
        CHECKS.due("routed", 6, () -> x.simulate(0));
        x.damage(1, 1, 0);
        CHECKS.due("damaged", 6, () -> x.simulate(0));
        CHECKS.due("a circle is no loop", 0xc, () -> Chips.circle().simulate(0));
    }

    private static void simulateElevenGates() {
        CHECKS.about("What NETS have: as many GATES as there can be");
        CHECKS.due("simulate(0)", 0xaaa, () -> Chips.chain().simulate(0));
        CHECKS.due("simulate(1)", 0x555, () -> Chips.chain().simulate(1));
        CHECKS.due("simulate(-2)", 0xaaa, () -> Chips.chain().simulate(-2));
    }

    private static void simulateANetOfItsOwn() {
        CHECKS.about("simulate: ArithmeticException if a NET depends on itself: one GATE");
        for (int kind = 0; kind < 4; kind++) {
            int k = kind;
            CHECKS.refused("kind " + k, Checks.ARITHMETIC, () -> Chips.of(new int[] {k, 0, 0, 0, 0}),
                    x -> x.simulate(0));
        }
        CHECKS.refused("by its second input", Checks.ARITHMETIC,
                () -> Chips.of(new int[] {3, 1, 0, 0, 1}), x -> x.simulate(-1));
        CHECKS.refused("by its first input", Checks.ARITHMETIC,
                () -> Chips.of(new int[] {3, 0, 1, 0, 1}), x -> x.simulate(-1));
        CHECKS.due("b is no input of COPY", 0,
                () -> Chips.of(new int[] {1, 1, 0, 0, 0}).simulate(0));
    }

    private static void simulateALoopOfAll() {
        CHECKS.about("simulate: ArithmeticException if a NET depends on itself: twelve GATES");
        CHECKS.refused("not routed", Checks.ARITHMETIC, Chips::ring, x -> x.simulate(0));
        CHECKS.refused("routed", Checks.ARITHMETIC, () -> Chips.routed(Chips.ring()),
                x -> x.simulate(0));
        ChipForge x = Chips.ring();
        CHECKS.arithmetic("simulate(7)", () -> x.simulate(7));
        x.clear();
        CHECKS.due("cleared", 7, () -> x.simulate(7));
    }

    private static void simulateBesideALoop() {
        CHECKS.about("simulate: ArithmeticException if a NET depends on itself: any one");
        CHECKS.refused("not routed", Checks.ARITHMETIC, Chips::loop, x -> x.simulate(16));
        CHECKS.refused("routed", Checks.ARITHMETIC, EdgesOfSignalsTest::loopRouted,
                x -> x.simulate(16));
        CHECKS.refused("the last gate alone", Checks.ARITHMETIC,
                () -> Chips.of(new int[][] {{0, 0, 0, 1, 0}, {1, 2, 0, 2, 1}}), x -> x.simulate(0));
    }
}
