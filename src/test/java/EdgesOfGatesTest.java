/** The boundary cases of the terms of gates and columns, and of promises 1, 2, 3 and 5. */
public final class EdgesOfGatesTest {
    private static final Checks CHECKS = new Checks();
    private static final int[] FAR = {Integer.MIN_VALUE, -2, Integer.MAX_VALUE};

    public static void main(String[] args) {
        newObjectHasNoGates();
        newObjectIsNotRouted();
        newObjectsAreApart();
        inputNets();
        secondInputNets();
        drivenNets();
        kinds();
        rows();
        secondInputIsNotLookedAt();
        oneNetForAllPins();
        atMostTwelveGates();
        rowEndsAtTheLastColumn();
        threePinsEndAtTheLastColumn();
        rowWithOneColumnLeft();
        rowsHaveRoomOfTheirOwn();
        netIsDrivenOnce();
        wrongNumbersComeFirst();
        gateUndoesTheRouting();
        clearOfNothing();
        clearOfOne();
        clearOfAll();
        clearAfterRefusedRouting();
        firstColumn();
        oneColumnStaysFree();
        pinsOfGates();
        gatesThatAreThere();
        noPinsWithoutGates();
        lastOfTheCalls();
        CHECKS.end();
    }

    /** Gates of the kinds in a row, that have net 11 as input and drive nets 0, 1, .. */
    private static ChipForge filled(int row, int... kinds) {
        ChipForge x = new ChipForge();
        for (int g = 0; g < kinds.length; g++) {
            x.gate(kinds[g], 11, 11, g, row);
        }
        return x;
    }

    private static void newObjectHasNoGates() {
        CHECKS.about("No GATES");
        ChipForge x = new ChipForge();
        CHECKS.due("count(0)", 0, () -> x.count(0));
        CHECKS.due("count(1)", 0, () -> x.count(1));
        for (int net = 0; net < 12; net++) {
            int n = net;
            CHECKS.due("net(" + n + ", 0)", 0, () -> x.net(n, 0));
            CHECKS.due("net(" + n + ", 1)", -1, () -> x.net(n, 1));
            CHECKS.due("net(" + n + ", 2)", 0, () -> x.net(n, 2));
            CHECKS.due("net(" + n + ", 3)", -1, () -> x.net(n, 3));
            CHECKS.due("net(" + n + ", 4)", -1, () -> x.net(n, 4));
        }
        CHECKS.index("column(0, 0)", () -> x.column(0, 0));
        CHECKS.due("simulate(4095)", 4095, () -> x.simulate(4095));
        CHECKS.due("the first gate", 0, () -> x.gate(0, 0, 0, 1, 0));
    }

    private static void newObjectIsNotRouted() {
        CHECKS.about("nothing is routed");
        ChipForge x = new ChipForge();
        for (int what = 2; what <= 5; what++) {
            int w = what;
            CHECKS.due("count(" + w + ")", 0, () -> x.count(w));
        }
        CHECKS.due("net(0, 5)", 0, () -> x.net(0, 5));
        CHECKS.due("net(0, 6)", 0, () -> x.net(0, 6));
        CHECKS.refused("mask", Checks.STATE, ChipForge::new, y -> y.mask(0, 0));
        CHECKS.refused("damage", Checks.STATE, ChipForge::new, y -> y.damage(0, 0, 7));
        CHECKS.refused("joined", Checks.STATE, ChipForge::new, y -> y.joined(0, 0, 0, 0));
        CHECKS.refused("faults(false)", Checks.STATE, ChipForge::new, y -> y.faults(false));
        CHECKS.refused("faults(true)", Checks.STATE, ChipForge::new, y -> y.faults(true));
        CHECKS.refused("delay", Checks.STATE, ChipForge::new, y -> y.delay(0));
        CHECKS.refused("arrival", Checks.STATE, ChipForge::new, y -> y.arrival(0));
    }

    private static void newObjectsAreApart() {
        CHECKS.about("No GATES; nothing is routed: also beside other objects");
        ChipForge before = new ChipForge();
        ChipForge used = Chips.smallRouted();
        used.damage(0, 0, 7);
        used.time(2, 50.0);
        CHECKS.alike("made before", new ChipForge(), before);
        CHECKS.due("the used one", 7, () -> used.mask(0, 0));
    }

    private static void inputNets() {
        CHECKS.about("NETS 0 to 11: a");
        for (int kind = 0; kind < 4; kind++) {
            int k = kind;
            for (int good : new int[] {0, 11}) {
                ChipForge x = new ChipForge();
                CHECKS.due("a " + good, 0, () -> x.gate(k, good, 5, 6, 0));
                CHECKS.due("its pins", 1, () -> x.net(good, 0));
            }
            CHECKS.refused("a -1", Checks.ARGUMENT, Chips::smallRouted, x -> x.gate(k, -1, 5, 6, 0));
            CHECKS.refused("a 12", Checks.ARGUMENT, Chips::smallRouted, x -> x.gate(k, 12, 5, 6, 0));
            for (int bad : FAR) {
                CHECKS.refused("a " + bad, Checks.ARGUMENT, Chips::smallRouted,
                        x -> x.gate(k, bad, 5, 6, 0));
            }
        }
    }

    private static void secondInputNets() {
        CHECKS.about("b is looked at for KINDS 2, 3");
        for (int kind = 2; kind < 4; kind++) {
            int k = kind;
            for (int good : new int[] {0, 11}) {
                ChipForge x = new ChipForge();
                CHECKS.due("b " + good, 0, () -> x.gate(k, 5, good, 6, 1));
                CHECKS.due("its pins", 1, () -> x.net(good, 0));
            }
            CHECKS.refused("b -1", Checks.ARGUMENT, Chips::smallRouted, x -> x.gate(k, 5, -1, 6, 1));
            CHECKS.refused("b 12", Checks.ARGUMENT, Chips::smallRouted, x -> x.gate(k, 5, 12, 6, 1));
            for (int bad : FAR) {
                CHECKS.refused("b " + bad, Checks.ARGUMENT, Chips::smallRouted,
                        x -> x.gate(k, 5, bad, 6, 1));
            }
        }
    }

    private static void drivenNets() {
        CHECKS.about("NETS 0 to 11: out");
        for (int good : new int[] {0, 11}) {
            ChipForge x = new ChipForge();
            CHECKS.due("out " + good, 0, () -> x.gate(3, 5, 6, good, 0));
            CHECKS.due("who drives it", 0, () -> x.net(good, 1));
        }
        CHECKS.refused("out -1", Checks.ARGUMENT, Chips::smallRouted, x -> x.gate(0, 5, 6, -1, 0));
        CHECKS.refused("out 12", Checks.ARGUMENT, Chips::smallRouted, x -> x.gate(0, 5, 6, 12, 0));
        for (int bad : FAR) {
            CHECKS.refused("out " + bad, Checks.ARGUMENT, Chips::smallRouted,
                    x -> x.gate(2, 5, 6, bad, 0));
        }
    }

    private static void kinds() {
        CHECKS.about("KIND: 0 INVERT, 1 COPY (one INPUT), 2 NAND, 3 NOR (two INPUTS)");
        int[] pins = {2, 2, 3, 3};
        for (int kind = 0; kind < 4; kind++) {
            int k = kind;
            ChipForge x = new ChipForge();
            CHECKS.due("kind " + k, 0, () -> x.gate(k, 4, 5, 6, 0));
            CHECKS.due("its last pin", pins[k], () -> x.column(0, pins[k] - 1));
            CHECKS.index("no pin behind it", () -> x.column(0, pins[k]));
        }
        CHECKS.refused("kind -1", Checks.ARGUMENT, Chips::smallRouted, x -> x.gate(-1, 4, 5, 6, 0));
        CHECKS.refused("kind 4", Checks.ARGUMENT, Chips::smallRouted, x -> x.gate(4, 4, 5, 6, 0));
        for (int bad : FAR) {
            CHECKS.refused("kind " + bad, Checks.ARGUMENT, Chips::smallRouted,
                    x -> x.gate(bad, 4, 5, 6, 0));
        }
    }

    private static void rows() {
        CHECKS.about("a ROW, 0 above or 1 below the CHANNEL");
        int[] post = {2, 0};
        int[] via = {4, 6};
        for (int row = 0; row < 2; row++) {
            int r = row;
            ChipForge x = new ChipForge();
            CHECKS.due("row " + r, 0, () -> x.gate(0, 4, 5, 6, r));
            x.route();
            CHECKS.due("what is above the track", post[r], () -> x.mask(0, 1));
            CHECKS.due("what is on the track", via[r], () -> x.mask(1, 1));
        }
        CHECKS.refused("row -1", Checks.ARGUMENT, Chips::smallRouted, x -> x.gate(0, 4, 5, 6, -1));
        CHECKS.refused("row 2", Checks.ARGUMENT, Chips::smallRouted, x -> x.gate(0, 4, 5, 6, 2));
        for (int bad : FAR) {
            CHECKS.refused("row " + bad, Checks.ARGUMENT, Chips::smallRouted,
                    x -> x.gate(0, 4, 5, 6, bad));
        }
    }

    private static void secondInputIsNotLookedAt() {
        CHECKS.about("b is looked at for KINDS 2, 3: not for 0, 1");
        for (int kind = 0; kind < 2; kind++) {
            for (int b : new int[] {-1, 0, 11, 12, Integer.MIN_VALUE, Integer.MAX_VALUE}) {
                int k = kind;
                ChipForge x = new ChipForge();
                CHECKS.due("kind " + k + ", b " + b, 0, () -> x.gate(k, 4, b, 6, 0));
                CHECKS.alike("as with another b", Chips.of(new int[] {k, 4, 4, 6, 0}), x);
            }
        }
    }

    private static void oneNetForAllPins() {
        CHECKS.about("a NET for each INPUT, one NET that they DRIVE: all of them the same");
        ChipForge x = new ChipForge();
        CHECKS.due("a, b and out", 0, () -> x.gate(2, 3, 3, 3, 0));
        CHECKS.due("pins", 3, () -> x.net(3, 0));
        CHECKS.due("driven", 0, () -> x.net(3, 1));
        CHECKS.due("no pad", 0, () -> x.net(3, 2));
        CHECKS.due("left end", 1, () -> x.net(3, 3));
        CHECKS.due("right end", 3, () -> x.net(3, 4));
    }

    private static void atMostTwelveGates() {
        CHECKS.about("numbered 0, 1, .. as they come, at most 12");
        ChipForge x = new ChipForge();
        for (int gate = 0; gate < 12; gate++) {
            int g = gate;
            CHECKS.due("gate " + g, g, () -> x.gate(2, 0, 0, g, g % 2));
        }
        CHECKS.due("count(0)", 12, () -> x.count(0));
        CHECKS.due("the last pin of the last gate", 23, () -> x.column(11, 2));
        CHECKS.refused("a 13th above", Checks.STATE, Chips::full, y -> y.gate(0, 0, 0, 3, 0));
        CHECKS.refused("a 13th below", Checks.STATE, Chips::full, y -> y.gate(2, 0, 0, 11, 1));
        CHECKS.refused("a 13th with room in its row", Checks.STATE, EdgesOfGatesTest::twelveShort,
                y -> y.gate(0, 0, 0, 11, 1));
        CHECKS.refused("a 13th, routed", Checks.STATE, () -> Chips.routed(Chips.full()),
                y -> y.gate(0, 0, 0, 3, 0));
    }

    /** Twelve gates of two pins, six in a row: each row has room for one more. */
    private static ChipForge twelveShort() {
        ChipForge x = new ChipForge();
        for (int g = 0; g < 12; g++) {
            x.gate(1, 0, 0, g, g % 2);
        }
        return x;
    }

    private static void rowEndsAtTheLastColumn() {
        CHECKS.about("its ROW has no room: two pins");
        for (int row = 0; row < 2; row++) {
            int r = row;
            ChipForge x = filled(r, 0, 1, 0, 1, 0, 1, 0);
            CHECKS.due("columns 22 and 23", 7, () -> x.gate(0, 11, 0, 7, r));
            CHECKS.due("the last column", 23, () -> x.column(7, 1));
            CHECKS.refused("three pins from 22 on", Checks.STATE,
                    () -> filled(r, 0, 1, 0, 1, 0, 1, 0), y -> y.gate(2, 11, 11, 7, r));
            CHECKS.refused("two pins behind 23", Checks.STATE,
                    () -> filled(r, 0, 1, 0, 1, 0, 1, 0, 1), y -> y.gate(0, 11, 0, 8, r));
            CHECKS.refused("three pins behind 23", Checks.STATE,
                    () -> filled(r, 0, 1, 0, 1, 0, 1, 0, 1), y -> y.gate(3, 11, 11, 8, r));
            CHECKS.refused("two pins behind 23, routed", Checks.STATE,
                    () -> Chips.routed(Chips.wide(r)), y -> y.gate(0, 11, 0, 8, r));
        }
    }

    private static void threePinsEndAtTheLastColumn() {
        CHECKS.about("its ROW has no room: three pins");
        for (int row = 0; row < 2; row++) {
            int r = row;
            ChipForge x = filled(r, 2, 3, 2, 3, 2);
            CHECKS.due("columns 21 to 23", 5, () -> x.gate(3, 11, 11, 5, r));
            CHECKS.due("the last column", 23, () -> x.column(5, 2));
            CHECKS.state("no more", () -> x.gate(0, 11, 0, 6, r));

            ChipForge y = filled(r, 2, 3, 2, 3, 0);
            CHECKS.due("columns 20 to 22", 5, () -> y.gate(2, 11, 11, 5, r));
            CHECKS.due("the last but one column", 22, () -> y.column(5, 2));
            CHECKS.refused("two pins from 24 on", Checks.STATE, () -> filled(r, 2, 3, 2, 3, 0, 2),
                    z -> z.gate(0, 11, 11, 6, r));
        }
    }

    private static void rowWithOneColumnLeft() {
        CHECKS.about("its ROW has no room: column 23 alone");
        for (int row = 0; row < 2; row++) {
            int r = row;
            CHECKS.refused("two pins from 23 on", Checks.STATE, () -> filled(r, 2, 3, 2, 3, 0, 1),
                    x -> x.gate(1, 11, 0, 6, r));
            CHECKS.refused("three pins from 23 on", Checks.STATE, () -> filled(r, 2, 3, 2, 3, 0, 1),
                    x -> x.gate(3, 11, 11, 6, r));
        }
    }

    private static void rowsHaveRoomOfTheirOwn() {
        CHECKS.about("its ROW has no room: the other ROW has");
        for (int row = 0; row < 2; row++) {
            int r = row;
            ChipForge x = Chips.wide(r);
            CHECKS.state("the full row", () -> x.gate(0, 11, 0, 8, r));
            CHECKS.due("the other one", 8, () -> x.gate(0, 11, 0, 8, 1 - r));
            CHECKS.due("from its first column on", 1, () -> x.column(8, 0));
        }
    }

    private static void netIsDrivenOnce() {
        CHECKS.about("the NET out is DRIVEN");
        CHECKS.refused("in the same row", Checks.STATE, Chips::smallRouted,
                x -> x.gate(0, 5, 0, 1, 0));
        CHECKS.refused("in the other row", Checks.STATE, Chips::smallRouted,
                x -> x.gate(0, 5, 0, 1, 1));
        CHECKS.refused("by another kind", Checks.STATE, Chips::small, x -> x.gate(2, 5, 6, 2, 0));
        CHECKS.refused("as its own input", Checks.STATE, Chips::small, x -> x.gate(3, 2, 2, 2, 0));
        for (int net : new int[] {0, 11}) {
            CHECKS.refused("net " + net, Checks.STATE, () -> Chips.of(new int[] {1, 5, 0, net, 0}),
                    x -> x.gate(1, 5, 0, net, 0));
        }
        ChipForge y = Chips.smallRouted();
        CHECKS.state("refused", () -> y.gate(2, 5, 6, 1, 0));
        CHECKS.due("the next number", 2, () -> y.gate(2, 5, 6, 0, 0));
        CHECKS.due("the next column", 4, () -> y.column(2, 0));
        y.clear();
        CHECKS.due("driven no more", 0, () -> y.gate(2, 5, 6, 1, 0));
    }

    private static void wrongNumbersComeFirst() {
        CHECKS.about("IllegalArgumentException if a number is not as said");
        CHECKS.refused("driven, and no row", Checks.ARGUMENT, Chips::smallRouted,
                x -> x.gate(0, 5, 0, 1, 2));
        CHECKS.refused("driven, and no second input", Checks.ARGUMENT, Chips::smallRouted,
                x -> x.gate(2, 5, 12, 1, 0));
        CHECKS.refused("twelve, and no kind", Checks.ARGUMENT, Chips::full,
                x -> x.gate(4, 0, 0, 0, 0));
        CHECKS.refused("no room, and no net", Checks.ARGUMENT, () -> Chips.wide(0),
                x -> x.gate(0, 12, 0, 8, 0));
        CHECKS.refused("all of them wrong", Checks.ARGUMENT, Chips::smallRouted,
                x -> x.gate(-1, -1, -1, -1, -1));
    }

    private static void gateUndoesTheRouting() {
        CHECKS.about("its number; nothing is routed then");
        ChipForge x = Chips.smallRouted();
        x.damage(3, 23, 7);
        CHECKS.due("the number", 2, () -> x.gate(0, 5, 0, 6, 0));
        ChipForge neverRouted = Chips.small();
        neverRouted.gate(0, 5, 0, 6, 0);
        CHECKS.alike("as never routed", neverRouted, x);
        ChipForge y = Chips.emptyRouted();
        CHECKS.due("the first one", 0, () -> y.gate(0, 5, 0, 6, 0));
        CHECKS.alike("the first one", Chips.of(new int[] {0, 5, 0, 6, 0}), y);
    }

    private static void clearOfNothing() {
        CHECKS.about("All GATES go; nothing is routed: how many there were: none");
        ChipForge x = new ChipForge();
        CHECKS.due("new: clear()", 0, x::clear);
        CHECKS.alike("as new", new ChipForge(), x);
        ChipForge y = Chips.emptyRouted();
        CHECKS.due("routed: clear()", 0, y::clear);
        CHECKS.alike("as new", new ChipForge(), y);
    }

    private static void clearOfOne() {
        CHECKS.about("All GATES go; nothing is routed: how many there were: one");
        ChipForge x = Chips.routed(Chips.of(new int[] {2, 0, 11, 3, 1}));
        CHECKS.due("clear()", 1, x::clear);
        CHECKS.due("clear() again", 0, x::clear);
        CHECKS.alike("as new", new ChipForge(), x);
    }

    private static void clearOfAll() {
        CHECKS.about("All GATES go; nothing is routed: how many there were: twelve");
        ChipForge x = Chips.routed(Chips.full());
        x.damage(2, 23, 7);
        CHECKS.due("clear()", 12, x::clear);
        CHECKS.alike("as new", new ChipForge(), x);
        ChipForge y = Chips.full();
        y.clear();
        for (int gate = 0; gate < 12; gate++) {
            int g = gate;
            CHECKS.due("gate " + g + " anew", g, () -> y.gate(2, 0, 0, g, g % 2));
        }
        CHECKS.alike("as filled once", Chips.full(), y);
        ChipForge z = Chips.routed(Chips.wide(0));
        z.clear();
        z.gate(0, 0, 0, 1, 0);
        z.gate(1, 1, 0, 2, 1);
        CHECKS.alike("other gates than before", Chips.small(), z);
    }

    private static void clearAfterRefusedRouting() {
        CHECKS.about("All GATES go; nothing is routed: behind a refused route");
        ChipForge x = Chips.circle();
        CHECKS.unsupported("route()", x::route);
        CHECKS.due("clear()", 2, x::clear);
        CHECKS.alike("as new", new ChipForge(), x);
        ChipForge y = Chips.tenTracks(0);
        CHECKS.state("route()", y::route);
        CHECKS.due("clear()", 5, y::clear);
        CHECKS.alike("as new", new ChipForge(), y);
    }

    private static void firstColumn() {
        CHECKS.about("In each ROW GATES stand by their numbers, from COLUMN 1 on");
        ChipForge x = Chips.small();
        CHECKS.due("above", 1, () -> x.column(0, 0));
        CHECKS.due("below", 1, () -> x.column(1, 0));
    }

    private static void oneColumnStaysFree() {
        CHECKS.about("one COLUMN stays free behind it");
        for (int row = 0; row < 2; row++) {
            ChipForge x = filled(row, 0, 2, 3, 1, 0);
            CHECKS.due("behind two pins", 4, () -> x.column(1, 0));
            CHECKS.due("behind three pins", 8, () -> x.column(2, 0));
            CHECKS.due("behind three pins again", 12, () -> x.column(3, 0));
            CHECKS.due("behind two pins again", 15, () -> x.column(4, 0));
        }
    }

    private static void pinsOfGates() {
        CHECKS.about("The COLUMN of PIN (g, i). IndexOutOfBoundsException if there is none: i");
        for (int kind = 0; kind < 4; kind++) {
            int k = kind;
            int last = k < 2 ? 1 : 2;
            ChipForge x = filled(0, k);
            CHECKS.due("the first pin", 1, () -> x.column(0, 0));
            CHECKS.due("the second pin", 2, () -> x.column(0, 1));
            CHECKS.due("the last pin", 1 + last, () -> x.column(0, last));
            CHECKS.refused("pin behind the last", Checks.INDEX, () -> filled(0, k),
                    y -> y.column(0, last + 1));
            CHECKS.refused("pin -1", Checks.INDEX, () -> filled(0, k), y -> y.column(0, -1));
            for (int bad : FAR) {
                CHECKS.refused("pin " + bad, Checks.INDEX, () -> filled(0, k),
                        y -> y.column(0, bad));
            }
        }
    }

    private static void gatesThatAreThere() {
        CHECKS.about("The COLUMN of PIN (g, i). IndexOutOfBoundsException if there is none: g");
        CHECKS.due("the first of twelve", 1, () -> Chips.full().column(0, 0));
        CHECKS.due("the last of twelve", 21, () -> Chips.full().column(11, 0));
        CHECKS.refused("gate 12 of twelve", Checks.INDEX, Chips::full, x -> x.column(12, 0));
        CHECKS.refused("gate -1 of twelve", Checks.INDEX, Chips::full, x -> x.column(-1, 0));
        CHECKS.due("the second of two", 1, () -> Chips.small().column(1, 0));
        CHECKS.refused("gate 2 of two", Checks.INDEX, Chips::smallRouted, x -> x.column(2, 0));
        CHECKS.refused("gate 11 of two", Checks.INDEX, Chips::smallRouted, x -> x.column(11, 0));
        for (int bad : FAR) {
            CHECKS.refused("gate " + bad, Checks.INDEX, Chips::smallRouted,
                    x -> x.column(bad, 0));
        }
    }

    private static void noPinsWithoutGates() {
        CHECKS.about("The COLUMN of PIN (g, i). IndexOutOfBoundsException if there is none");
        CHECKS.refused("new", Checks.INDEX, ChipForge::new, x -> x.column(0, 0));
        CHECKS.refused("routed without gates", Checks.INDEX, Chips::emptyRouted,
                x -> x.column(0, 0));
        ChipForge y = Chips.full();
        y.clear();
        CHECKS.index("cleared", () -> y.column(0, 0));
        CHECKS.index("cleared", () -> y.column(11, 2));
    }

    private static void lastOfTheCalls() {
        CHECKS.about("An object is used for at most 512 calls");
        ChipForge x = Chips.smallRouted();
        for (int call = 3; call < 511; call++) {
            int c = call;
            Checks.answer(() -> c % 2 == 0 ? x.faults(true) : x.gate(0, 0, 0, 1, 0));
        }
        CHECKS.due("the 512th call", 6, () -> x.simulate(0));
    }
}
