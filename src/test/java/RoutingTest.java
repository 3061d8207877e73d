/** Promises 4 and 6, and what counts nets and tracks of promise 15: route, net, count. */
public final class RoutingTest {
    private static final Checks CHECKS = new Checks();

    public static void main(String[] args) {
        nothingToRoute();
        netsShareATrack();
        leastNetComesFirst();
        upperNetComesFirst();
        netIsNotAboveItself();
        circle();
        failedRoutingLeavesNothing();
        nineTracksAreEnough();
        tenTracksAreTooMany();
        nineTracksBeforeACircle();
        netBeforeRouting();
        netAfterRouting();
        netAfterAllIsDamaged();
        netWrongNumbers();
        countOfNets();
        CHECKS.end();
    }

    private static void build(ChipForge x, int[][] gates) {
        for (int[] g : gates) {
            x.gate(g[0], g[1], g[2], g[3], g[4]);
        }
    }

    private static void tracks(String told, ChipForge x, int... due) {
        for (int net = 0; net < due.length; net++) {
            int n = net;
            CHECKS.due(told + ": track of net " + n, due[n], () -> x.net(n, 5));
        }
    }

    private static void nothingToRoute() {
        ChipForge x = new ChipForge();
        CHECKS.due("no gates: route()", 0, x::route);
        CHECKS.due("no gates: line 1", 0, () -> x.mask(1, 23));
        CHECKS.index("no gates: line 2", () -> x.mask(2, 0));
        CHECKS.due("no gates: open", 0, () -> x.faults(false));
        x.clear();
        CHECKS.state("cleared: mask", () -> x.mask(0, 0));
    }

    private static void netsShareATrack() {
        ChipForge x = new ChipForge();
        build(x, new int[][] {{0, 0, 0, 1, 0}, {0, 1, 0, 2, 0}, {0, 2, 0, 3, 0}, {0, 3, 0, 0, 0}});
        CHECKS.due("a ring in one row: route()", 2, x::route);
        tracks("a ring in one row", x, 1, 2, 2, 2, 0);
        CHECKS.due("a ring in one row: again", 2, x::route);
        CHECKS.due("a ring in one row: tracks", 2, () -> x.count(2));
    }

    private static void leastNetComesFirst() {
        ChipForge x = new ChipForge();
        build(x, new int[][] {{2, 7, 4, 2, 1}, {2, 9, 1, 3, 1}});
        CHECKS.due("four pads: route()", 4, x::route);
        tracks("four pads", x, 0, 1, 0, 0, 2, 0, 0, 3, 0, 4);
    }

    private static void upperNetComesFirst() {
        ChipForge x = new ChipForge();
        build(x, new int[][] {{0, 5, 0, 6, 0}, {0, 0, 0, 1, 1}});
        CHECKS.due("5 above 0: route()", 2, x::route);
        tracks("5 above 0", x, 2, 0, 0, 0, 0, 1, 0);

        ChipForge y = new ChipForge();
        build(y, new int[][] {{0, 0, 0, 1, 0}, {1, 1, 0, 2, 1}});
        CHECKS.due("0 above 1: route()", 2, y::route);
        tracks("0 above 1", y, 1, 2, 0);
    }

    private static void netIsNotAboveItself() {
        ChipForge x = new ChipForge();
        build(x, new int[][] {{1, 0, 0, 0, 0}, {1, 0, 0, 1, 1}});
        CHECKS.due("one net in both rows: route()", 1, x::route);
        CHECKS.due("one net in both rows: length", 4, () -> x.net(0, 6));
        CHECKS.due("one net in both rows: mask", 7, () -> x.mask(1, 1));
        CHECKS.due("one net in both rows: vias", 2, () -> x.count(5));
        CHECKS.due("one net in both rows: posts", 3, () -> x.count(4));
        CHECKS.due("one net in both rows: open", 0, () -> x.faults(false));
    }

    private static void circle() {
        ChipForge x = new ChipForge();
        build(x, new int[][] {{2, 0, 1, 2, 0}, {2, 1, 0, 3, 1}});
        CHECKS.unsupported("0 above 1 above 0", x::route);

        ChipForge y = new ChipForge();
        build(y, new int[][] {{2, 0, 1, 2, 0}, {2, 1, 2, 0, 1}});
        CHECKS.unsupported("0 above 1 above 2 above 0", y::route);

        ChipForge z = new ChipForge();
        build(z, new int[][] {{2, 0, 1, 2, 0}, {2, 1, 3, 0, 1}});
        CHECKS.due("2 has one pin, so it is above nobody", 3, z::route);
        tracks("2 has one pin, so it is above nobody", z, 1, 2, 0, 3);
    }

    private static void failedRoutingLeavesNothing() {
        ChipForge x = new ChipForge();
        build(x, new int[][] {{0, 4, 0, 5, 0}, {0, 5, 0, 4, 1}});
        CHECKS.unsupported("4 above 5 above 4", x::route);
        CHECKS.due("no tracks", 0, () -> x.count(2));
        CHECKS.due("no bars", 0, () -> x.count(3));
        CHECKS.due("no track", 0, () -> x.net(4, 5));
        CHECKS.due("no length", 0, () -> x.net(4, 6));
        CHECKS.state("no drawing", () -> x.mask(0, 0));
        CHECKS.state("no damage", () -> x.damage(0, 0, 0));
        CHECKS.state("nothing found", () -> x.joined(0, 0, 0, 0));
        CHECKS.state("no faults", () -> x.faults(true));
        CHECKS.state("no delay", () -> x.delay(4));
        CHECKS.state("no arrival", () -> x.arrival(0));
        CHECKS.due("the gates stay", 2, () -> x.count(0));
        x.clear();
        x.gate(0, 4, 0, 5, 0);
        CHECKS.due("routed anew", 1, x::route);
    }

    private static void nineTracksAreEnough() {
        ChipForge x = new ChipForge();
        build(x, new int[][] {
            {2, 11, 0, 9, 1}, {2, 6, 4, 1, 1}, {1, 10, 0, 11, 1},
            {2, 1, 5, 0, 1}, {0, 7, 0, 2, 1}, {2, 9, 3, 4, 1}
        });
        CHECKS.due("nine tracks", 9, x::route);
        CHECKS.due("line 10 is there", 0, () -> x.mask(10, 0));
        CHECKS.index("line 11 is not", () -> x.mask(11, 0));
        CHECKS.due("nine tracks: open", 0, () -> x.faults(false));
        CHECKS.due("nine tracks: short", 0, () -> x.faults(true));
    }

    private static void tenTracksAreTooMany() {
        ChipForge x = new ChipForge();
        build(x, new int[][] {
            {0, 1, 0, 11, 0}, {2, 5, 1, 4, 0}, {2, 0, 6, 6, 1}, {1, 3, 0, 3, 0},
            {2, 11, 2, 0, 0}, {2, 8, 7, 1, 0}, {2, 9, 6, 5, 0}
        });
        CHECKS.state("ten tracks", x::route);
        CHECKS.due("ten tracks: none", 0, () -> x.count(2));
        CHECKS.due("ten tracks: no track", 0, () -> x.net(8, 5));
        CHECKS.state("ten tracks: no drawing", () -> x.mask(0, 0));
    }

    /** A tenth track, on which the circle would be seen, is not begun. */
    private static void nineTracksBeforeACircle() {
        ChipForge x = new ChipForge();
        build(x, new int[][] {
            {2, 8, 2, 1, 1}, {3, 8, 11, 10, 0}, {2, 1, 4, 11, 0}, {2, 5, 9, 5, 1},
            {1, 11, 0, 2, 1}, {2, 10, 0, 9, 1}, {1, 6, 0, 8, 0}, {3, 3, 9, 0, 0}
        });
        CHECKS.state("a circle behind nine tracks", x::route);
    }

    private static void netRow(String told, ChipForge x, int n, int... due) {
        for (int what = 0; what < due.length; what++) {
            int w = what;
            CHECKS.due(told + ": net(" + n + ", " + w + ")", due[w], () -> x.net(n, w));
        }
    }

    private static void netBeforeRouting() {
        ChipForge x = new ChipForge();
        build(x, new int[][] {{2, 0, 1, 2, 0}, {1, 2, 0, 3, 1}, {2, 3, 3, 4, 0}});
        netRow("not routed", x, 0, 1, -1, 1, 0, 1, 0, 0);
        netRow("not routed", x, 1, 1, -1, 1, 0, 2, 0, 0);
        netRow("not routed", x, 2, 2, 0, 0, 1, 3, 0, 0);
        netRow("not routed", x, 3, 3, 1, 0, 2, 6, 0, 0);
        netRow("not routed", x, 4, 1, 2, 0, -1, -1, 0, 0);
        netRow("not routed", x, 5, 0, -1, 0, -1, -1, 0, 0);
        x.gate(0, 4, 0, 1, 1);
        netRow("driven now", x, 1, 2, 3, 0, 2, 5, 0, 0);
        netRow("driven now", x, 4, 2, 2, 0, 4, 7, 0, 0);
    }

    private static void netAfterRouting() {
        ChipForge x = new ChipForge();
        build(x, new int[][] {{2, 0, 1, 2, 0}, {1, 2, 0, 3, 1}});
        CHECKS.due("three tracks", 3, x::route);
        netRow("routed", x, 0, 1, -1, 1, 0, 1, 1, 2);
        netRow("routed", x, 1, 1, -1, 1, 0, 2, 2, 4);
        netRow("routed", x, 2, 2, 0, 0, 1, 3, 3, 6);
        netRow("routed", x, 3, 1, 1, 0, -1, -1, 0, 0);
        netRow("routed", x, 11, 0, -1, 0, -1, -1, 0, 0);
        x.damage(1, 0, 0);
        CHECKS.due("the length is that of the routing", 2, () -> x.net(0, 6));
    }

    /** Tracks, lengths, delays and arrivals are those of the routing; points are counted as they are. */
    private static void netAfterAllIsDamaged() {
        for (int bits : new int[] {0, 7}) {
            ChipForge x = Chips.smallRouted();
            for (int line = 0; line < 4; line++) {
                for (int c = 0; c < 24; c++) {
                    x.damage(line, c, bits);
                }
            }
            netRow("all points are " + bits, x, 0, 1, -1, 1, 0, 1, 1, 2);
            netRow("all points are " + bits, x, 1, 2, 0, 0, 1, 2, 2, 4);
            netRow("all points are " + bits, x, 2, 1, 1, 0, -1, -1, 0, 0);
            CHECKS.due("delay of 0", 1.0, () -> x.delay(0));
            CHECKS.due("delay of 1", 4.0, () -> x.delay(1));
            CHECKS.due("arrival at 2", 7.0, () -> x.arrival(2));
            CHECKS.due("tracks", 2, () -> x.count(2));
            for (int what = 3; what <= 5; what++) {
                int w = what;
                CHECKS.due("count(" + w + ")", bits == 0 ? 0 : 96, () -> x.count(w));
            }
        }
    }

    private static void netWrongNumbers() {
        ChipForge x = new ChipForge();
        for (int bad : new int[] {-1, 12, Integer.MIN_VALUE, Integer.MAX_VALUE}) {
            CHECKS.argument("net of no net", () -> x.net(bad, 0));
            CHECKS.argument("nothing of a net", () -> x.net(0, bad));
        }
        CHECKS.argument("net(0, 7)", () -> x.net(0, 7));
        x.route();
        CHECKS.argument("routed: net(12, 5)", () -> x.net(12, 5));
        CHECKS.argument("routed: net(0, 7)", () -> x.net(0, 7));
    }

    private static void countOfNets() {
        ChipForge x = new ChipForge();
        x.gate(2, 0, 0, 1, 0);
        CHECKS.due("one wired net", 1, () -> x.count(1));
        CHECKS.due("one gate", 1, () -> x.count(0));
        x.gate(0, 1, 0, 2, 1);
        CHECKS.due("two wired nets", 2, () -> x.count(1));
        CHECKS.due("no tracks yet", 0, () -> x.count(2));
        x.route();
        CHECKS.due("two tracks", 2, () -> x.count(2));
        x.clear();
        CHECKS.due("no wired nets", 0, () -> x.count(1));
        CHECKS.argument("count(-1)", () -> x.count(-1));
        CHECKS.argument("count(6)", () -> x.count(6));
        CHECKS.argument("count(max)", () -> x.count(Integer.MAX_VALUE));
    }
}
