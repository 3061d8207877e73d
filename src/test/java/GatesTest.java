/** Promises 1, 2, 3 and 5: a new object, gate, clear, column. */
public final class GatesTest {
    private static final Checks CHECKS = new Checks();

    public static void main(String[] args) {
        newObject();
        gateNumbers();
        gateWrongNumbers();
        gateDrivenTwice();
        gateRoomOfTwoPins();
        gateRoomOfThreePins();
        gateTwelve();
        gateUndoesRouting();
        refusedGateChangesNothing();
        clearForgetsGates();
        columnOfPins();
        CHECKS.end();
    }

    private static void newObject() {
        ChipForge x = new ChipForge();
        for (int what = 0; what <= 5; what++) {
            int w = what;
            CHECKS.due("new: count(" + w + ")", 0, () -> x.count(w));
        }
        for (int net = 0; net < 12; net++) {
            int n = net;
            CHECKS.due("new: net(n, 0)", 0, () -> x.net(n, 0));
            CHECKS.due("new: net(n, 1)", -1, () -> x.net(n, 1));
            CHECKS.due("new: net(n, 2)", 0, () -> x.net(n, 2));
            CHECKS.due("new: net(n, 3)", -1, () -> x.net(n, 3));
            CHECKS.due("new: net(n, 4)", -1, () -> x.net(n, 4));
            CHECKS.due("new: net(n, 5)", 0, () -> x.net(n, 5));
            CHECKS.due("new: net(n, 6)", 0, () -> x.net(n, 6));
        }
        CHECKS.index("new: column(0, 0)", () -> x.column(0, 0));
        CHECKS.state("new: mask(0, 0)", () -> x.mask(0, 0));
        CHECKS.state("new: damage(0, 0, 0)", () -> x.damage(0, 0, 0));
        CHECKS.state("new: joined", () -> x.joined(0, 0, 0, 0));
        CHECKS.state("new: faults(false)", () -> x.faults(false));
        CHECKS.state("new: faults(true)", () -> x.faults(true));
        CHECKS.state("new: delay(0)", () -> x.delay(0));
        CHECKS.state("new: arrival(0)", () -> x.arrival(0));
        CHECKS.due("new: simulate(4095)", 4095, () -> x.simulate(4095));
        CHECKS.due("new: clear()", 0, x::clear);
        CHECKS.due("new: route()", 0, x::route);
    }

    private static void gateNumbers() {
        ChipForge x = new ChipForge();
        CHECKS.due("first gate", 0, () -> x.gate(0, 0, 0, 1, 0));
        CHECKS.due("second gate", 1, () -> x.gate(1, 11, -5, 2, 1));
        CHECKS.due("third gate", 2, () -> x.gate(2, 3, 11, 11, 0));
        CHECKS.due("fourth gate", 3, () -> x.gate(3, 0, 0, 0, 1));
        CHECKS.due("gates", 4, () -> x.count(0));
    }

    private static void gateWrongNumbers() {
        ChipForge x = new ChipForge();
        for (int bad : new int[] {-1, Integer.MIN_VALUE, Integer.MAX_VALUE}) {
            CHECKS.argument("gate: kind", () -> x.gate(bad, 0, 0, 1, 0));
            CHECKS.argument("gate: a", () -> x.gate(0, bad, 0, 1, 0));
            CHECKS.argument("gate: b of NAND", () -> x.gate(2, 0, bad, 1, 0));
            CHECKS.argument("gate: b of NOR", () -> x.gate(3, 0, bad, 1, 0));
            CHECKS.argument("gate: out", () -> x.gate(0, 0, 0, bad, 0));
            CHECKS.argument("gate: row", () -> x.gate(0, 0, 0, 1, bad));
        }
        CHECKS.argument("gate: kind 4", () -> x.gate(4, 0, 0, 1, 0));
        CHECKS.argument("gate: a 12", () -> x.gate(0, 12, 0, 1, 0));
        CHECKS.argument("gate: b 12 of NAND", () -> x.gate(2, 0, 12, 1, 0));
        CHECKS.argument("gate: b 12 of NOR", () -> x.gate(3, 0, 12, 1, 0));
        CHECKS.argument("gate: out 12", () -> x.gate(0, 0, 0, 12, 0));
        CHECKS.argument("gate: row 2", () -> x.gate(0, 0, 0, 1, 2));
        CHECKS.due("no gate came of these", 0, () -> x.count(0));
        CHECKS.due("b is not looked at for INVERT", 0, () -> x.gate(0, 0, 12, 1, 0));
        CHECKS.due("b is not looked at for COPY", 1, () -> x.gate(1, 0, -1, 2, 0));
        CHECKS.due("b of these is no input", 0, () -> x.net(11, 0));
        CHECKS.argument("argument before state", () -> x.gate(0, 12, 0, 1, 0));
    }

    private static void gateDrivenTwice() {
        ChipForge x = new ChipForge();
        x.gate(0, 0, 0, 5, 0);
        CHECKS.state("driven in the same row", () -> x.gate(0, 1, 0, 5, 0));
        CHECKS.state("driven in the other row", () -> x.gate(2, 1, 2, 5, 1));
        CHECKS.due("inputs of the refused ones have no pins", 0, () -> x.net(1, 0));
        CHECKS.due("an input may be driven later", 1, () -> x.gate(0, 5, 0, 0, 1));
    }

    private static void gateRoomOfTwoPins() {
        ChipForge x = new ChipForge();
        for (int g = 0; g < 8; g++) {
            int out = g;
            CHECKS.due("two pins, row 1", g, () -> x.gate(1, 11, 0, out, 1));
            CHECKS.due("their column", 1 + 3 * g, () -> x.column(out, 0));
        }
        CHECKS.due("the last column is in use", 23, () -> x.column(7, 1));
        CHECKS.state("row 1 is full", () -> x.gate(1, 11, 0, 8, 1));
        CHECKS.due("row 0 is not", 8, () -> x.gate(1, 11, 0, 8, 0));
    }

    private static void gateRoomOfThreePins() {
        ChipForge x = new ChipForge();
        for (int g = 0; g < 6; g++) {
            int out = g;
            CHECKS.due("three pins, row 0", g, () -> x.gate(3, 10, 11, out, 0));
        }
        CHECKS.due("the last column is in use", 23, () -> x.column(5, 2));
        CHECKS.state("row 0 is full", () -> x.gate(0, 11, 0, 8, 0));

        ChipForge y = new ChipForge();
        for (int g = 0; g < 7; g++) {
            y.gate(0, 11, 0, g, 0);
        }
        CHECKS.state("no room for three pins", () -> y.gate(2, 11, 11, 7, 0));
        CHECKS.due("room for two", 7, () -> y.gate(0, 11, 0, 7, 0));
    }

    private static void gateTwelve() {
        ChipForge x = new ChipForge();
        for (int g = 0; g < 12; g++) {
            int out = g;
            CHECKS.due("gate of twelve", g, () -> x.gate(1, 0, 0, out, out % 2));
        }
        CHECKS.state("a thirteenth", () -> x.gate(1, 0, 0, 0, 0));
        CHECKS.argument("a thirteenth of no kind", () -> x.gate(7, 0, 0, 0, 0));
        CHECKS.due("twelve stay", 12, () -> x.count(0));
    }

    private static void gateUndoesRouting() {
        ChipForge x = new ChipForge();
        x.gate(0, 0, 0, 1, 0);
        x.route();
        CHECKS.due("routed", 1, () -> x.net(0, 5));
        x.gate(0, 2, 0, 3, 0);
        CHECKS.due("not routed: track", 0, () -> x.net(0, 5));
        CHECKS.due("not routed: length", 0, () -> x.net(0, 6));
        CHECKS.due("not routed: tracks", 0, () -> x.count(2));
        CHECKS.due("not routed: bars", 0, () -> x.count(3));
        CHECKS.due("not routed: posts", 0, () -> x.count(4));
        CHECKS.due("not routed: vias", 0, () -> x.count(5));
        CHECKS.state("not routed: mask", () -> x.mask(0, 0));
    }

    private static void refusedGateChangesNothing() {
        ChipForge x = new ChipForge();
        x.gate(0, 0, 0, 1, 0);
        x.route();
        CHECKS.state("refused", () -> x.gate(0, 3, 0, 1, 0));
        CHECKS.argument("refused", () -> x.gate(0, 3, 0, 1, 9));
        CHECKS.due("still routed", 4, () -> x.mask(1, 1));
        CHECKS.due("still one gate", 1, () -> x.count(0));
        CHECKS.index("no second gate", () -> x.column(1, 0));
        CHECKS.due("the next one stands beside the first", 1, () -> x.gate(0, 3, 0, 2, 0));
        CHECKS.due("its column", 4, () -> x.column(1, 0));
    }

    private static void clearForgetsGates() {
        ChipForge x = new ChipForge();
        x.gate(2, 0, 1, 2, 0);
        x.gate(0, 2, 0, 3, 1);
        x.time(0, 5.0);
        x.route();
        CHECKS.due("clear()", 2, x::clear);
        CHECKS.due("clear() again", 0, x::clear);
        for (int what = 0; what <= 5; what++) {
            int w = what;
            CHECKS.due("cleared: count", 0, () -> x.count(w));
        }
        CHECKS.state("cleared: mask", () -> x.mask(0, 0));
        CHECKS.index("cleared: column", () -> x.column(0, 0));
        CHECKS.due("cleared: pins", 0, () -> x.net(2, 0));
        CHECKS.due("cleared: driver", -1, () -> x.net(2, 1));
        CHECKS.due("cleared: pad", 0, () -> x.net(0, 2));
        CHECKS.due("cleared: left end", -1, () -> x.net(2, 3));
        CHECKS.due("cleared: the net may be driven again", 0, () -> x.gate(1, 4, 0, 2, 0));
        CHECKS.due("cleared: the row is free", 1, () -> x.column(0, 0));
        CHECKS.due("cleared: times stay", 5.0, () -> x.time(0, 5.0));
        CHECKS.due("cleared: right end", 1, () -> x.net(4, 4));
    }

    private static void columnOfPins() {
        ChipForge x = new ChipForge();
        x.gate(0, 0, 0, 1, 0);
        x.gate(2, 0, 1, 2, 1);
        x.gate(3, 0, 1, 3, 0);
        x.gate(1, 0, 0, 4, 1);
        int[][] due = {{1, 2}, {1, 2, 3}, {4, 5, 6}, {5, 6}};
        for (int gate = 0; gate < due.length; gate++) {
            int g = gate;
            for (int pin = 0; pin < due[g].length; pin++) {
                int i = pin;
                CHECKS.due("column(" + g + ", " + i + ")", due[g][i], () -> x.column(g, i));
            }
            CHECKS.index("a pin too many", () -> x.column(g, due[g].length));
            CHECKS.index("a pin too few", () -> x.column(g, -1));
        }
        CHECKS.index("a gate too many", () -> x.column(4, 0));
        CHECKS.index("a gate too few", () -> x.column(-1, 0));
        CHECKS.index("far out", () -> x.column(Integer.MAX_VALUE, Integer.MIN_VALUE));
        CHECKS.index("far out", () -> x.column(0, Integer.MAX_VALUE));
    }
}
