/** The boundary cases of the terms of nets and routing, and of promises 4, 6 and 15. */
public final class EdgesOfRoutingTest {
    private static final Checks CHECKS = new Checks();
    private static final int[] FAR = {Integer.MIN_VALUE, -2, 99, Integer.MAX_VALUE};

    public static void main(String[] args) {
        noTrack();
        oneTrack();
        nineTracks();
        tenTracks();
        circleOfTwo();
        circleOfThree();
        circleOfFour();
        circleBehindOtherTracks();
        circleBehindNineTracks();
        netAboveItself();
        netsThatAreNotWiredAreNotAbove();
        leftEndGreaterByOne();
        leftEndTheSame();
        ofSeveralTheLeast();
        netsAboveComeBefore();
        allNetsAboveComeBefore();
        routedAgain();
        netNumbers();
        whatOfANet();
        pinsOfANet();
        driverOfANet();
        padOfANet();
        wiredNets();
        leftEnds();
        rightEnds();
        trackOfANet();
        lengthOfANet();
        lengthOfAllPins();
        whatIsCounted();
        countsOfNothing();
        countsOfAll();
        countsOfTracks();
        CHECKS.end();
    }

    private static void tracks(String told, ChipForge x, int... due) {
        for (int net = 0; net < due.length; net++) {
            int n = net;
            CHECKS.due(told + ": track of net " + n, due[n], () -> x.net(n, 5));
        }
    }

    private static void noTrack() {
        CHECKS.about("ROUTING: how many TRACKS: none");
        ChipForge x = new ChipForge();
        CHECKS.due("route()", 0, x::route);
        CHECKS.due("it is routed", 0, () -> x.mask(0, 0));
        CHECKS.due("LINES 0 to T + 1: line 1", 0, () -> x.mask(1, 23));
        CHECKS.index("LINES 0 to T + 1: line 2", () -> x.mask(2, 0));
        CHECKS.due("open", 0, () -> x.faults(false));
        CHECKS.due("short", 0, () -> x.faults(true));
        CHECKS.due("delay", 0.0, () -> x.delay(0));
        CHECKS.due("arrival", 0.0, () -> x.arrival(11));
        CHECKS.due("route() again", 0, x::route);
    }

    private static void oneTrack() {
        CHECKS.about("ROUTING: how many TRACKS: one");
        ChipForge x = Chips.of(new int[] {0, 3, 0, 4, 0});
        CHECKS.due("route()", 1, x::route);
        tracks("one", x, 0, 0, 0, 1, 0);
        CHECKS.due("line 2", 0, () -> x.mask(2, 23));
        CHECKS.index("line 3", () -> x.mask(3, 0));
    }

    private static void nineTracks() {
        CHECKS.about("TRACK 1, 2, .. one after the other, at most 9");
        for (int row = 0; row < 2; row++) {
            ChipForge x = Chips.nineTracks(row);
            CHECKS.due("route()", 9, x::route);
            tracks("nine", x, 1, 2, 3, 4, 5, 6, 7, 8, 9, 0, 0, 0);
            CHECKS.due("count(2)", 9, () -> x.count(2));
            CHECKS.due("line 10", 0, () -> x.mask(10, 0));
            CHECKS.index("line 11", () -> x.mask(11, 0));
            CHECKS.due("open", 0, () -> x.faults(false));
            CHECKS.due("short", 0, () -> x.faults(true));
        }
    }

    private static void tenTracks() {
        CHECKS.about("IllegalStateException if it needs more than 9. Nothing is routed then");
        for (int row = 0; row < 2; row++) {
            int r = row;
            CHECKS.refused("route()", Checks.STATE, () -> Chips.tenTracks(r), ChipForge::route);
            ChipForge x = Chips.tenTracks(r);
            CHECKS.state("route()", x::route);
            CHECKS.state("route() again", x::route);
            CHECKS.state("mask", () -> x.mask(0, 0));
            CHECKS.due("tracks", 0, () -> x.count(2));
            tracks("ten", x, 0, 0, 0, 0, 0, 0, 0, 0, 0, 0, 0, 0);
            CHECKS.due("the gates stay", 5, x::clear);
            x.gate(0, 0, 0, 1, r);
            CHECKS.due("route() of others", 1, x::route);
            CHECKS.alike("as a new one", Chips.routed(Chips.of(new int[] {0, 0, 0, 1, r})), x);
        }
    }

    private static void circleOfTwo() {
        CHECKS.about("UnsupportedOperationException for a CIRCLE. Nothing is routed then: of two");
        CHECKS.refused("route()", Checks.UNSUPPORTED, Chips::circle, ChipForge::route);
        ChipForge x = Chips.circle();
        CHECKS.unsupported("route()", x::route);
        CHECKS.unsupported("route() again", x::route);
        CHECKS.state("mask", () -> x.mask(0, 0));
        CHECKS.state("damage", () -> x.damage(0, 0, 1));
        CHECKS.state("joined", () -> x.joined(0, 0, 0, 0));
        CHECKS.state("faults", () -> x.faults(false));
        CHECKS.state("delay", () -> x.delay(0));
        CHECKS.state("arrival", () -> x.arrival(0));
        CHECKS.due("tracks", 0, () -> x.count(2));
        CHECKS.due("simulate", 0b1100, () -> x.simulate(0));
        CHECKS.due("the gates stay", 2, x::clear);
        x.gate(0, 0, 0, 1, 0);
        CHECKS.due("route() of others", 1, x::route);
        CHECKS.alike("as a new one", Chips.routed(Chips.of(new int[] {0, 0, 0, 1, 0})), x);
    }

    private static void circleOfThree() {
        CHECKS.about("UnsupportedOperationException for a CIRCLE: of three");
        CHECKS.refused("route()", Checks.UNSUPPORTED,
                () -> Chips.of(new int[][] {{2, 0, 1, 2, 0}, {2, 1, 2, 0, 1}}), ChipForge::route);
    }

    private static void circleOfFour() {
        CHECKS.about("UnsupportedOperationException for a CIRCLE: of four");
        int[][] line = {{2, 0, 1, 2, 0}, {2, 1, 2, 3, 1}, {1, 3, 0, 4, 0}};
        ChipForge x = Chips.of(line);
        CHECKS.due("four below one another", 4, x::route);
        tracks("four below one another", x, 1, 2, 3, 4);
        x.gate(1, 6, 0, 5, 1);
        CHECKS.due("3 is above 6", 5, x::route);
        CHECKS.refused("3 is above 0", Checks.UNSUPPORTED, () -> {
            ChipForge y = Chips.of(line);
            y.gate(1, 0, 0, 5, 1);
            return y;
        }, ChipForge::route);
    }

    private static void circleBehindOtherTracks() {
        CHECKS.about("If nobody gets one though some have none, it is a CIRCLE: not at first");
        int[][] gates = {{2, 0, 1, 2, 0}, {2, 1, 0, 3, 1}, {0, 6, 0, 7, 0}, {0, 7, 0, 8, 0}};
        CHECKS.refused("6 and 7 have a track", Checks.UNSUPPORTED, () -> Chips.of(gates),
                ChipForge::route);
        ChipForge x = Chips.of(gates);
        CHECKS.unsupported("route()", x::route);
        CHECKS.due("the track of 6", 0, () -> x.net(6, 5));
        CHECKS.due("the length of 6", 0, () -> x.net(6, 6));
        CHECKS.due("tracks", 0, () -> x.count(2));
    }

    private static void circleBehindNineTracks() {
        CHECKS.about("at most 9: no tenth is begun, on which a CIRCLE would be seen");
        int[][] gates = {
            {2, 8, 2, 1, 1}, {3, 8, 11, 10, 0}, {2, 1, 4, 11, 0}, {2, 5, 9, 5, 1},
            {1, 11, 0, 2, 1}, {2, 10, 0, 9, 1}, {1, 6, 0, 8, 0}, {3, 3, 9, 0, 0}
        };
        CHECKS.refused("route()", Checks.STATE, () -> Chips.of(gates), ChipForge::route);
    }

    private static void netAboveItself() {
        CHECKS.about("A NET is ABOVE another one: not above itself");
        ChipForge x = Chips.narrow();
        CHECKS.due("route()", 2, x::route);
        tracks("1 is in both rows of column 2", x, 1, 1, 0, 0, 0, 2, 0);
    }

    private static void netsThatAreNotWiredAreNotAbove() {
        CHECKS.about("A NET is ABOVE another one, if .. both are WIRED");
        ChipForge x = Chips.of(new int[][] {{2, 0, 1, 2, 0}, {2, 1, 3, 0, 1}});
        CHECKS.due("net 2 with one pin over net 0", 3, x::route);
        tracks("net 2 with one pin over net 0", x, 1, 2, 0, 3);
        ChipForge y = Chips.of(new int[][] {{2, 0, 1, 2, 0}, {2, 1, 3, 0, 1}, {0, 2, 0, 4, 1}});
        CHECKS.due("net 2 with two pins over net 0", 4, y::route);
        tracks("net 2 with two pins over net 0", y, 2, 3, 1, 4);
        ChipForge z = Chips.of(new int[][] {{2, 0, 1, 2, 0}, {1, 1, 0, 4, 1}});
        CHECKS.due("net 1 over net 4 with one pin", 2, z::route);
        tracks("net 1 over net 4 with one pin", z, 1, 2, 0, 0, 0);
    }

    private static void leftEndGreaterByOne() {
        CHECKS.about("its left end is greater than the right end of the latest one that did");
        ChipForge x = Chips.of(new int[][] {{1, 0, 0, 1, 0}, {1, 1, 0, 2, 0}});
        CHECKS.due("right end of 0", 1, () -> x.net(0, 4));
        CHECKS.due("left end of 1", 2, () -> x.net(1, 3));
        CHECKS.due("route()", 1, x::route);
        tracks("2 behind 1", x, 1, 1, 0);
        CHECKS.due("they do not touch", 0, () -> x.faults(true));
    }

    private static void leftEndTheSame() {
        CHECKS.about("its left end is greater than the right end: not if it is the same");
        ChipForge x = Chips.small();
        CHECKS.due("right end of 0", 1, () -> x.net(0, 4));
        CHECKS.due("left end of 1", 1, () -> x.net(1, 3));
        CHECKS.due("route()", 2, x::route);
        tracks("1 behind 1", x, 1, 2, 0);
        ChipForge y = Chips.of(new int[][] {{2, 1, 0, 2, 0}, {1, 3, 0, 1, 0}});
        CHECKS.due("the left end of 1 is smaller", 3, y::route);
        tracks("the left end of 1 is smaller", y, 1, 3, 0, 2);
    }

    private static void ofSeveralTheLeast() {
        CHECKS.about("gone through by the left ends of their SPANS, of several the least");
        ChipForge x = Chips.of(new int[][] {{2, 11, 4, 2, 1}, {2, 9, 0, 3, 1}});
        CHECKS.due("four pads", 4, x::route);
        tracks("four pads", x, 1, 0, 0, 0, 2, 0, 0, 0, 0, 3, 0, 4);
        ChipForge y = Chips.of(new int[][] {{2, 5, 1, 5, 0}, {2, 0, 1, 0, 0}});
        CHECKS.due("a left end further right", 2, y::route);
        tracks("a left end further right", y, 2, 1, 0, 0, 0, 2);
    }

    private static void netsAboveComeBefore() {
        CHECKS.about("all NETS ABOVE it have TRACKS before this one");
        ChipForge x = Chips.of(new int[][] {{0, 11, 0, 6, 0}, {0, 0, 0, 1, 1}});
        CHECKS.due("11 above 0", 2, x::route);
        tracks("11 above 0", x, 2, 0, 0, 0, 0, 0, 0, 0, 0, 0, 0, 1);
        ChipForge y = Chips.of(new int[][] {{0, 0, 0, 6, 0}, {0, 11, 0, 1, 1}});
        CHECKS.due("0 above 11", 2, y::route);
        tracks("0 above 11", y, 1, 0, 0, 0, 0, 0, 0, 0, 0, 0, 0, 2);
    }

    private static void allNetsAboveComeBefore() {
        CHECKS.about("all NETS ABOVE it have TRACKS before this one: also the last of several");
        ChipForge x = Chips.of(new int[][] {
            {1, 4, 0, 5, 0}, {1, 7, 0, 8, 0}, {1, 0, 0, 1, 1}, {1, 0, 0, 2, 1}
        });
        CHECKS.due("4 and 7 above 0", 3, x::route);
        tracks("4 and 7 above 0", x, 3, 0, 0, 0, 1, 0, 0, 2);
        ChipForge ring = Chips.routed(Chips.ring());
        tracks("a ring of twelve", ring, 1, 1, 1, 1, 1, 1, 1, 3, 4, 4, 4, 2);
    }

    private static void routedAgain() {
        CHECKS.about("THE DRAWING is that of it: routed again");
        ChipForge x = Chips.smallRouted();
        x.damage(0, 0, 7);
        x.damage(2, 1, 0);
        x.damage(3, 23, 7);
        CHECKS.due("route()", 2, x::route);
        CHECKS.alike("as never damaged", Chips.smallRouted(), x);
        ChipForge y = Chips.routed(Chips.nineTracks(0));
        y.damage(10, 23, 7);
        y.damage(3, 5, 7);
        y.clear();
        y.gate(0, 0, 0, 1, 0);
        y.gate(1, 1, 0, 2, 1);
        y.route();
        CHECKS.alike("fewer lines than before", Chips.smallRouted(), y);
    }

    private static void netNumbers() {
        CHECKS.about("net: IllegalArgumentException if a number is not as said: n 0 to 11");
        for (int what = 0; what <= 6; what++) {
            int w = what;
            CHECKS.due("net(0, " + w + ")", true, () -> Chips.small().net(0, w) >= -1);
            CHECKS.due("net(11, " + w + ")", true, () -> Chips.small().net(11, w) >= -1);
            CHECKS.refused("net(-1, " + w + ")", Checks.ARGUMENT, Chips::small, x -> x.net(-1, w));
            CHECKS.refused("net(12, " + w + ")", Checks.ARGUMENT, Chips::smallRouted,
                    x -> x.net(12, w));
            for (int bad : FAR) {
                CHECKS.refused("net(" + bad + ", " + w + ")", Checks.ARGUMENT, Chips::smallRouted,
                        x -> x.net(bad, w));
            }
        }
    }

    private static void whatOfANet() {
        CHECKS.about("net: IllegalArgumentException if a number is not as said: what 0 to 6");
        ChipForge x = Chips.smallRouted();
        CHECKS.due("net(0, 0)", 1, () -> x.net(0, 0));
        CHECKS.due("net(0, 6)", 2, () -> x.net(0, 6));
        CHECKS.refused("net(0, -1)", Checks.ARGUMENT, Chips::smallRouted, y -> y.net(0, -1));
        CHECKS.refused("net(0, 7)", Checks.ARGUMENT, Chips::smallRouted, y -> y.net(0, 7));
        CHECKS.refused("net(0, -1)", Checks.ARGUMENT, ChipForge::new, y -> y.net(0, -1));
        CHECKS.refused("net(11, 7)", Checks.ARGUMENT, ChipForge::new, y -> y.net(11, 7));
        for (int bad : FAR) {
            CHECKS.refused("net(0, " + bad + ")", Checks.ARGUMENT, Chips::smallRouted,
                    y -> y.net(0, bad));
        }
    }

    private static void pinsOfANet() {
        CHECKS.about("Of NET n what 0: PINS");
        ChipForge x = Chips.full();
        CHECKS.due("as many as there can be", 25, () -> x.net(0, 0));
        CHECKS.due("one", 1, () -> x.net(11, 0));
        x.clear();
        CHECKS.due("none", 0, () -> x.net(0, 0));
    }

    private static void driverOfANet() {
        CHECKS.about("what 1: the GATE that DRIVES it (-1 for none)");
        ChipForge x = Chips.full();
        CHECKS.due("the first gate", 0, () -> x.net(0, 1));
        CHECKS.due("the last gate", 11, () -> x.net(11, 1));
        ChipForge y = Chips.small();
        CHECKS.due("an input alone", -1, () -> y.net(0, 1));
        CHECKS.due("no pins", -1, () -> y.net(11, 1));
    }

    private static void padOfANet() {
        CHECKS.about("what 2: 1 if it has a PAD: an INPUT of some GATE, and not DRIVEN");
        ChipForge x = Chips.small();
        CHECKS.due("an input, not driven", 1, () -> x.net(0, 2));
        CHECKS.due("an input, driven", 0, () -> x.net(1, 2));
        CHECKS.due("no input, driven", 0, () -> x.net(2, 2));
        CHECKS.due("no input, not driven", 0, () -> x.net(3, 2));
        x.gate(0, 2, 0, 0, 0);
        CHECKS.due("driven later", 0, () -> x.net(0, 2));
        CHECKS.due("an input later", 0, () -> x.net(2, 2));
        ChipForge y = Chips.of(new int[] {3, 4, 11, 5, 1});
        CHECKS.due("a second input", 1, () -> y.net(11, 2));
    }

    private static void wiredNets() {
        CHECKS.about("WIRED, if it has two PINS or more, or one and a PAD");
        ChipForge x = new ChipForge();
        CHECKS.due("no pins", 0, () -> x.count(1));
        x.gate(0, 0, 0, 1, 0);
        CHECKS.due("one pin and a pad; one pin", 1, () -> x.count(1));
        CHECKS.due("one pin and a pad", 1, () -> x.net(0, 4));
        CHECKS.due("one pin", -1, () -> x.net(1, 4));
        x.gate(0, 1, 0, 2, 1);
        CHECKS.due("two pins", 2, () -> x.count(1));
        x.gate(2, 1, 1, 3, 1);
        CHECKS.due("four pins", 2, () -> x.count(1));
        CHECKS.due("two pins and a pad", 1, () -> Chips.of(new int[] {2, 5, 5, 6, 0}).count(1));
        CHECKS.due("two pins of one gate", 1, () -> Chips.of(new int[] {0, 5, 5, 5, 0}).count(1));
    }

    private static void leftEnds() {
        CHECKS.about("what 3: the left end of its SPAN (-1 if it is not WIRED)");
        ChipForge x = Chips.wide(0);
        CHECKS.due("from the pad in column 0", 0, () -> x.net(11, 3));
        CHECKS.due("from the first column of pins", 1, () -> x.net(7, 3));
        CHECKS.due("one pin", -1, () -> x.net(0, 3));
        CHECKS.due("no pins", -1, () -> x.net(10, 3));
        CHECKS.due("one column alone", 2, () -> Chips.narrow().net(1, 3));
        ChipForge y = Chips.wide(1);
        CHECKS.due("below: from the first column of pins", 1, () -> y.net(7, 3));
        ChipForge z = filledButForColumns22And23();
        z.gate(1, 7, 0, 7, 0);
        CHECKS.due("from column 22", 22, () -> z.net(7, 3));
        CHECKS.due("to column 23", 23, () -> z.net(7, 4));
    }

    private static ChipForge filledButForColumns22And23() {
        ChipForge x = new ChipForge();
        for (int g = 0; g < 7; g++) {
            x.gate(1, 11, 0, g, 0);
        }
        return x;
    }

    private static void rightEnds() {
        CHECKS.about("what 4: the right end of its SPAN (-1 if it is not WIRED)");
        for (int row = 0; row < 2; row++) {
            ChipForge x = Chips.wide(row);
            CHECKS.due("at the last column", 23, () -> x.net(7, 4));
            CHECKS.due("before it", 22, () -> x.net(11, 4));
            CHECKS.due("one pin", -1, () -> x.net(0, 4));
            CHECKS.due("no pins", -1, () -> x.net(10, 4));
        }
        CHECKS.due("one column alone", 2, () -> Chips.narrow().net(1, 4));
        CHECKS.due("one pin beside the pad", 1, () -> Chips.small().net(0, 4));
    }

    private static void trackOfANet() {
        CHECKS.about("what 5: its TRACK (0 if it has none, or nothing is routed)");
        ChipForge x = Chips.small();
        CHECKS.due("nothing is routed", 0, () -> x.net(0, 5));
        x.route();
        CHECKS.due("the first", 1, () -> x.net(0, 5));
        CHECKS.due("one pin", 0, () -> x.net(2, 5));
        CHECKS.due("no pins", 0, () -> x.net(11, 5));
        x.gate(0, 5, 0, 6, 0);
        CHECKS.due("routed no more", 0, () -> x.net(0, 5));
        CHECKS.due("the ninth", 9, () -> Chips.routed(Chips.nineTracks(1)).net(8, 5));
    }

    private static void lengthOfANet() {
        CHECKS.about("what 6: its LENGTH (likewise)");
        ChipForge x = Chips.narrow();
        CHECKS.due("nothing is routed", 0, () -> x.net(1, 6));
        x.route();
        CHECKS.due("posts alone", 3, () -> x.net(1, 6));
        CHECKS.due("a bar and a post above", 2, () -> x.net(0, 6));
        CHECKS.due("a bar and a post below", 2, () -> x.net(5, 6));
        CHECKS.due("one pin", 0, () -> x.net(6, 6));
        CHECKS.due("no pins", 0, () -> x.net(11, 6));
        for (int column = 0; column < 24; column++) {
            x.damage(1, column, 7);
            x.damage(2, column, 0);
        }
        CHECKS.due("(as it was routed)", 3, () -> x.net(1, 6));
        CHECKS.due("(as it was routed)", 2, () -> x.net(5, 6));
        x.clear();
        CHECKS.due("routed no more", 0, () -> x.net(1, 6));
    }

    private static void lengthOfAllPins() {
        CHECKS.about("THE LENGTH of a WIRED NET is how many BARS and POSTS it has");
        CHECKS.due("25 pins", 21 + 25, () -> Chips.routed(Chips.full()).net(0, 6));
        CHECKS.due("to column 23, above", 22 + 2 * 2, () -> Chips.routed(Chips.wide(0)).net(7, 6));
        CHECKS.due("to column 23, below", 22 + 2, () -> Chips.routed(Chips.wide(1)).net(7, 6));
        CHECKS.due("the first of nine, above", 5 + 1,
                () -> Chips.routed(Chips.nineTracks(0)).net(0, 6));
        CHECKS.due("the first of nine, below", 5 + 9,
                () -> Chips.routed(Chips.nineTracks(1)).net(0, 6));
        CHECKS.due("the last of nine, above", 9 + 2 * 9,
                () -> Chips.routed(Chips.nineTracks(0)).net(8, 6));
        CHECKS.due("the last of nine, below", 9 + 2,
                () -> Chips.routed(Chips.nineTracks(1)).net(8, 6));
    }

    private static void whatIsCounted() {
        CHECKS.about("count: What 0 .. 5. IllegalArgumentException for others");
        CHECKS.due("count(0)", 2, () -> Chips.smallRouted().count(0));
        CHECKS.due("count(5)", 3, () -> Chips.smallRouted().count(5));
        CHECKS.refused("count(-1)", Checks.ARGUMENT, Chips::smallRouted, x -> x.count(-1));
        CHECKS.refused("count(6)", Checks.ARGUMENT, Chips::smallRouted, x -> x.count(6));
        CHECKS.refused("count(-1)", Checks.ARGUMENT, ChipForge::new, x -> x.count(-1));
        CHECKS.refused("count(6)", Checks.ARGUMENT, ChipForge::new, x -> x.count(6));
        for (int bad : FAR) {
            CHECKS.refused("count(" + bad + ")", Checks.ARGUMENT, Chips::small, x -> x.count(bad));
        }
    }

    private static void countsOfNothing() {
        CHECKS.about("count: nothing there");
        for (int what = 0; what <= 5; what++) {
            int w = what;
            CHECKS.due("new: count(" + w + ")", 0, () -> new ChipForge().count(w));
            CHECKS.due("routed: count(" + w + ")", 0, () -> Chips.emptyRouted().count(w));
        }
    }

    private static void countsOfAll() {
        CHECKS.about("count: What 0: GATES, 1: WIRED NETS");
        CHECKS.due("twelve gates", 12, () -> Chips.full().count(0));
        CHECKS.due("one net has more than one pin", 1, () -> Chips.full().count(1));
        CHECKS.due("twelve wired nets", 12, () -> Chips.ring().count(1));
        CHECKS.due("routed: twelve gates", 12, () -> Chips.routed(Chips.ring()).count(0));
        CHECKS.due("routed: twelve wired nets", 12, () -> Chips.routed(Chips.ring()).count(1));
        CHECKS.due("36 pins: twelve gates", 12, () -> Chips.fullest().count(0));
        CHECKS.due("36 pins: twelve wired nets", 12, () -> Chips.fullest().count(1));
        CHECKS.due("36 pins: nine tracks", 9, () -> Chips.fullest().route());
        CHECKS.due("36 pins: a via for each", 36, () -> Chips.routed(Chips.fullest()).count(5));
    }

    private static void countsOfTracks() {
        CHECKS.about("2: TRACKS (0 if nothing is routed), 3: BARS, 4: POSTS, 5: VIAS (0 likewise)");
        ChipForge x = Chips.small();
        for (int what = 2; what <= 5; what++) {
            int w = what;
            CHECKS.due("before: count(" + w + ")", 0, () -> x.count(w));
        }
        x.route();
        int[] due = {2, 2, 4, 3};
        for (int what = 2; what <= 5; what++) {
            int w = what;
            CHECKS.due("routed: count(" + w + ")", due[w - 2], () -> x.count(w));
        }
        x.gate(0, 5, 0, 6, 0);
        for (int what = 2; what <= 5; what++) {
            int w = what;
            CHECKS.due("behind a gate: count(" + w + ")", 0, () -> x.count(w));
        }
    }
}
