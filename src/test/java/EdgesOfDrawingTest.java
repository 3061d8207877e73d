import java.util.function.Supplier;

/** The boundary cases of the terms of the drawing, and of promises 7 to 10 and 15. */
public final class EdgesOfDrawingTest {
    private static final Checks CHECKS = new Checks();
    private static final int[] FAR = {Integer.MIN_VALUE, -2, 99, Integer.MAX_VALUE};

    public static void main(String[] args) {
        linesOfNoTracks();
        linesOfTwoTracks();
        linesOfNineTracks();
        columnsOfTheDrawing();
        maskWithoutRouting();
        barsEndBeforeTheRightEnd();
        postsAboveAndBelow();
        spanOfOneColumn();
        bitsThatAreTaken();
        bitsThatAreNot();
        wrongBitsComeFirst();
        damageAtNoPoint();
        damageWithoutRouting();
        damageAtTheCorners();
        damageTakenBack();
        pinsThatAreJoined();
        pinsThatAreNotThere();
        joinedWithoutRouting();
        joinedWithItself();
        faultsWithoutRouting();
        barInTheLastColumn();
        barBeforeTheLastColumn();
        postInTheLastLine();
        postBeforeTheLastLine();
        linesOfAnEarlierDrawing();
        padIsAtTheUpperLayer();
        padAndPinOfOneColumn();
        netOfOneColumnIsOpen();
        netsThatAreNotWired();
        onePinAloneIsShort();
        nothingIsLeft();
        everythingIsJoined();
        fewerPinsThanBefore();
        noNetsAtAll();
        countOfAllPoints();
        CHECKS.end();
    }

    private static ChipForge nineRouted() {
        return Chips.routed(Chips.nineTracks(0));
    }

    private static void points(String told, ChipForge x, int[][] due) {
        for (int line = 0; line < due.length; line++) {
            for (int column = 0; column < 24; column++) {
                int l = line;
                int c = column;
                int want = c < due[l].length ? due[l][c] : 0;
                CHECKS.due(told + ": mask(" + l + ", " + c + ")", want, () -> x.mask(l, c));
            }
        }
        CHECKS.index(told + ": no more lines", () -> x.mask(due.length, 0));
    }

    private static void faults(String told, ChipForge x, int open, int shorts) {
        CHECKS.due(told + ": open", open, () -> x.faults(false));
        CHECKS.due(told + ": short", shorts, () -> x.faults(true));
    }

    private static ChipForge fill(ChipForge x, int lines, int bits) {
        for (int line = 0; line < lines; line++) {
            for (int column = 0; column < 24; column++) {
                x.damage(line, column, bits);
            }
        }
        return x;
    }

    private static void lines(Supplier<ChipForge> maker, int last) {
        CHECKS.due("the first line", true, () -> maker.get().mask(0, 0) >= 0);
        CHECKS.due("the last line", 0, () -> maker.get().mask(last, 0));
        CHECKS.due("the last line, last column", 0, () -> maker.get().mask(last, 23));
        CHECKS.refused("line " + (last + 1), Checks.INDEX, maker, x -> x.mask(last + 1, 0));
        CHECKS.refused("line -1", Checks.INDEX, maker, x -> x.mask(-1, 0));
        for (int bad : FAR) {
            CHECKS.refused("line " + bad, Checks.INDEX, maker, x -> x.mask(bad, 0));
        }
    }

    private static void linesOfNoTracks() {
        CHECKS.about("LINES 0 to T + 1: T 0");
        lines(Chips::emptyRouted, 1);
    }

    private static void linesOfTwoTracks() {
        CHECKS.about("LINES 0 to T + 1: T 2");
        lines(Chips::smallRouted, 3);
    }

    private static void linesOfNineTracks() {
        CHECKS.about("LINES 0 to T + 1: T 9");
        lines(EdgesOfDrawingTest::nineRouted, 10);
        lines(() -> Chips.routed(Chips.nineTracks(1)), 10);
    }

    private static void columnsOfTheDrawing() {
        CHECKS.about("COLUMNS 0 to 23");
        for (int line = 0; line <= 3; line++) {
            int l = line;
            int[] first = {0, 1, 0, 0};
            CHECKS.due("column 0", first[l], () -> Chips.smallRouted().mask(l, 0));
            CHECKS.due("column 23", 0, () -> Chips.smallRouted().mask(l, 23));
            CHECKS.refused("column 24", Checks.INDEX, Chips::smallRouted, x -> x.mask(l, 24));
            CHECKS.refused("column -1", Checks.INDEX, Chips::smallRouted, x -> x.mask(l, -1));
            for (int bad : FAR) {
                CHECKS.refused("column " + bad, Checks.INDEX, Chips::smallRouted,
                        x -> x.mask(l, bad));
            }
        }
    }

    private static void maskWithoutRouting() {
        CHECKS.about("mask: IllegalStateException if nothing is routed");
        CHECKS.refused("new", Checks.STATE, ChipForge::new, x -> x.mask(0, 0));
        CHECKS.refused("with gates", Checks.STATE, Chips::small, x -> x.mask(0, 0));
        CHECKS.refused("no such point", Checks.STATE, Chips::small, x -> x.mask(-1, 24));
        ChipForge x = Chips.smallRouted();
        x.gate(0, 5, 0, 6, 0);
        CHECKS.state("behind a gate", () -> x.mask(1, 0));
        CHECKS.due("routed again", 3, x::route);
        CHECKS.due("routed again", 1, () -> x.mask(1, 0));
        x.clear();
        CHECKS.state("cleared", () -> x.mask(1, 0));
    }

    private static void barsEndBeforeTheRightEnd() {
        CHECKS.about("BARS on LINE t from the left end of its SPAN to before the right end");
        points("above", Chips.routed(Chips.wide(0)), new int[][] {
            {0, 2, 0, 0, 2, 0, 0, 2, 0, 0, 2, 0, 0, 2, 0, 0, 2, 0, 0, 2, 0, 0, 2, 2},
            {1, 3, 1, 1, 5, 1, 1, 5, 1, 1, 5, 1, 1, 5, 1, 1, 5, 1, 1, 5, 1, 1, 4, 2},
            {0, 5, 1, 1, 1, 1, 1, 1, 1, 1, 1, 1, 1, 1, 1, 1, 1, 1, 1, 1, 1, 1, 1, 4},
            {}
        });
    }

    private static void postsAboveAndBelow() {
        CHECKS.about("POSTS: of the upper ROW from LINE 0 to before t, of the lower from t to T + 1");
        points("below", Chips.routed(Chips.wide(1)), new int[][] {
            {},
            {1, 1, 1, 1, 7, 1, 1, 7, 1, 1, 7, 1, 1, 7, 1, 1, 7, 1, 1, 7, 1, 1, 6, 0},
            {0, 7, 1, 1, 3, 1, 1, 3, 1, 1, 3, 1, 1, 3, 1, 1, 3, 1, 1, 3, 1, 1, 3, 6},
            {}
        });
    }

    private static void spanOfOneColumn() {
        CHECKS.about("BARS from the left end to before the right end: both in one COLUMN");
        ChipForge x = Chips.routed(Chips.narrow());
        points("narrow", x, new int[][] {{0, 2, 2}, {1, 4, 6}, {1, 6, 2}, {}});
        CHECKS.due("one via for two pins", 3, () -> x.count(5));
    }

    private static void bitsThatAreTaken() {
        CHECKS.about("There is this from now on (0 to 7): what was");
        ChipForge x = Chips.smallRouted();
        int before = 7;
        for (int bits = 0; bits <= 7; bits++) {
            int b = bits;
            int was = before;
            CHECKS.due("damage to " + b, was, () -> x.damage(2, 1, b));
            CHECKS.due("what is", b, () -> x.mask(2, 1));
            before = b;
        }
    }

    private static void bitsThatAreNot() {
        CHECKS.about("damage: IllegalArgumentException for another number");
        CHECKS.refused("-1", Checks.ARGUMENT, Chips::smallRouted, x -> x.damage(2, 1, -1));
        CHECKS.refused("8", Checks.ARGUMENT, Chips::smallRouted, x -> x.damage(2, 1, 8));
        for (int bad : FAR) {
            CHECKS.refused("" + bad, Checks.ARGUMENT, Chips::smallRouted,
                    x -> x.damage(2, 1, bad));
        }
        ChipForge y = Chips.smallRouted();
        y.damage(2, 1, 3);
        CHECKS.argument("8", () -> y.damage(2, 1, 8));
        CHECKS.due("what was is that of the latest one taken", 3, () -> y.damage(2, 1, 0));
    }

    private static void wrongBitsComeFirst() {
        CHECKS.about("damage: IllegalArgumentException for another number; else as by mask");
        CHECKS.refused("not routed, 8", Checks.ARGUMENT, Chips::small, x -> x.damage(2, 1, 8));
        CHECKS.refused("new, -1", Checks.ARGUMENT, ChipForge::new, x -> x.damage(0, 0, -1));
        CHECKS.refused("no line, 8", Checks.ARGUMENT, Chips::smallRouted, x -> x.damage(4, 0, 8));
        CHECKS.refused("no column, -1", Checks.ARGUMENT, Chips::smallRouted,
                x -> x.damage(0, 24, -1));
    }

    private static void damageAtNoPoint() {
        CHECKS.about("damage: IndexOutOfBoundsException if there is no such point");
        CHECKS.refused("line 4", Checks.INDEX, Chips::smallRouted, x -> x.damage(4, 0, 7));
        CHECKS.refused("line -1", Checks.INDEX, Chips::smallRouted, x -> x.damage(-1, 0, 7));
        CHECKS.refused("column 24", Checks.INDEX, Chips::smallRouted, x -> x.damage(0, 24, 7));
        CHECKS.refused("column -1", Checks.INDEX, Chips::smallRouted, x -> x.damage(1, -1, 7));
        CHECKS.refused("line 2 of T 0", Checks.INDEX, Chips::emptyRouted, x -> x.damage(2, 0, 7));
        CHECKS.refused("line 11 of T 9", Checks.INDEX, EdgesOfDrawingTest::nineRouted,
                x -> x.damage(11, 0, 7));
        for (int bad : FAR) {
            CHECKS.refused("line " + bad, Checks.INDEX, Chips::smallRouted,
                    x -> x.damage(bad, 0, 0));
            CHECKS.refused("column " + bad, Checks.INDEX, Chips::smallRouted,
                    x -> x.damage(0, bad, 0));
        }
    }

    private static void damageWithoutRouting() {
        CHECKS.about("damage: IllegalStateException if nothing is routed");
        CHECKS.refused("new", Checks.STATE, ChipForge::new, x -> x.damage(0, 0, 7));
        CHECKS.refused("with gates", Checks.STATE, Chips::small, x -> x.damage(1, 1, 0));
        CHECKS.refused("no such point", Checks.STATE, Chips::small, x -> x.damage(-1, 24, 0));
        ChipForge x = Chips.smallRouted();
        x.clear();
        CHECKS.state("cleared", () -> x.damage(0, 0, 7));
        x.route();
        CHECKS.alike("routed behind it", Chips.emptyRouted(), x);
    }

    private static void damageAtTheCorners() {
        CHECKS.about("There is this from now on: at the corners of THE DRAWING");
        for (int last : new int[] {1, 3, 10}) {
            Supplier<ChipForge> maker = last == 1 ? Chips::emptyRouted
                    : last == 3 ? Chips::smallRouted : EdgesOfDrawingTest::nineRouted;
            for (int line : new int[] {0, last}) {
                for (int column : new int[] {0, 23}) {
                    ChipForge x = maker.get();
                    String told = "damage(" + line + ", " + column + ")";
                    CHECKS.due(told, 0, () -> x.damage(line, column, 7));
                    CHECKS.due(told + ": is", 7, () -> x.mask(line, column));
                    CHECKS.due(told + ": was", 7, () -> x.damage(line, column, 0));
                    CHECKS.alike(told + ": others stay", maker.get(), x);
                }
            }
        }
    }

    private static void damageTakenBack() {
        CHECKS.about("There is this from now on: and only there");
        ChipForge x = Chips.smallRouted();
        int was = x.damage(2, 1, 0);
        faults("damaged", x, 1, 0);
        x.damage(2, 1, was);
        CHECKS.alike("as never damaged", Chips.smallRouted(), x);
    }

    private static void pinsThatAreJoined() {
        CHECKS.about("Whether PINS (g, i) and (h, j) are FOUND to be joined");
        ChipForge x = Chips.routed(Chips.full());
        CHECKS.due("the first and the last input", true, () -> x.joined(0, 0, 11, 1));
        CHECKS.due("the last input and the first", true, () -> x.joined(11, 1, 0, 0));
        CHECKS.due("the first and the last pin", false, () -> x.joined(0, 0, 11, 2));
        CHECKS.due("the last and the first pin", false, () -> x.joined(11, 2, 0, 0));
        CHECKS.due("both in column 23", false, () -> x.joined(10, 2, 11, 2));
        x.damage(1, 1, 3);
        CHECKS.due("the via above is that below", true, () -> x.joined(0, 0, 1, 0));
        CHECKS.due("the rest is cut off", false, () -> x.joined(0, 0, 11, 1));
    }

    private static void pinsThatAreNotThere() {
        CHECKS.about("joined: IndexOutOfBoundsException if there is no such PIN");
        Supplier<ChipForge> maker = Chips::smallRouted;
        CHECKS.due("the last gates and pins", true, () -> maker.get().joined(1, 1, 1, 1));
        for (int bad : new int[] {-1, 2, 11, 12, Integer.MIN_VALUE, Integer.MAX_VALUE}) {
            CHECKS.refused("g " + bad, Checks.INDEX, maker, x -> x.joined(bad, 0, 0, 0));
            CHECKS.refused("i " + bad, Checks.INDEX, maker, x -> x.joined(0, bad, 0, 0));
            CHECKS.refused("h " + bad, Checks.INDEX, maker, x -> x.joined(0, 0, bad, 0));
            CHECKS.refused("j " + bad, Checks.INDEX, maker, x -> x.joined(0, 0, 0, bad));
        }
        Supplier<ChipForge> full = () -> Chips.routed(Chips.full());
        CHECKS.due("pin (11, 2)", true, () -> full.get().joined(11, 2, 11, 2));
        CHECKS.refused("pin (11, 3)", Checks.INDEX, full, x -> x.joined(0, 0, 11, 3));
        CHECKS.refused("pin (12, 0)", Checks.INDEX, full, x -> x.joined(12, 0, 0, 0));
        CHECKS.refused("no gates", Checks.INDEX, Chips::emptyRouted, x -> x.joined(0, 0, 0, 0));
    }

    private static void joinedWithoutRouting() {
        CHECKS.about("joined: IllegalStateException if nothing is routed");
        CHECKS.refused("new", Checks.STATE, ChipForge::new, x -> x.joined(0, 0, 0, 0));
        CHECKS.refused("with gates", Checks.STATE, Chips::small, x -> x.joined(0, 1, 1, 0));
        CHECKS.refused("no such pin", Checks.STATE, Chips::small, x -> x.joined(9, -1, 9, 3));
    }

    private static void joinedWithItself() {
        CHECKS.about("FOUND are the PINS and PADS that are joined (by any way): none at all");
        ChipForge x = fill(Chips.smallRouted(), 4, 0);
        CHECKS.due("a pin and itself", true, () -> x.joined(0, 1, 0, 1));
        CHECKS.due("a pin that is not wired and itself", true, () -> x.joined(1, 1, 1, 1));
        CHECKS.due("two pins of a net", false, () -> x.joined(0, 1, 1, 0));
        CHECKS.due("pins side by side", false, () -> x.joined(0, 0, 0, 1));
        CHECKS.due("pins in one column", false, () -> x.joined(0, 0, 1, 0));
    }

    private static void faultsWithoutRouting() {
        CHECKS.about("faults: IllegalStateException if nothing is routed");
        for (boolean isShort : new boolean[] {false, true}) {
            CHECKS.refused("new", Checks.STATE, ChipForge::new, x -> x.faults(isShort));
            CHECKS.refused("with gates", Checks.STATE, Chips::small, x -> x.faults(isShort));
            ChipForge x = Chips.smallRouted();
            x.gate(0, 5, 0, 6, 0);
            CHECKS.state("behind a gate", () -> x.faults(isShort));
            x.clear();
            CHECKS.state("cleared", () -> x.faults(isShort));
            x.route();
            CHECKS.due("routed", 0, () -> x.faults(isShort));
        }
    }

    private static void barInTheLastColumn() {
        CHECKS.about("A BAR in the last COLUMN joins nothing");
        ChipForge x = Chips.routed(Chips.wide(0));
        x.damage(1, 23, 7);
        faults("net 11 has its pad at the other end of this line", x, 0, 0);
        ChipForge y = Chips.routed(Chips.wide(0));
        y.damage(0, 23, 7);
        faults("net 11 has its pad at the begin of the next line", y, 0, 0);
        CHECKS.due("pins of 7 and 11", false, () -> y.joined(7, 1, 1, 0));
        ChipForge z = Chips.routed(Chips.wide(1));
        z.damage(2, 23, 7);
        z.damage(3, 0, 1);
        z.damage(3, 1, 4);
        faults("below", z, 0, 0);
        CHECKS.due("it is counted", 22 + 22 + 2, () -> z.count(3));
    }

    private static void barBeforeTheLastColumn() {
        CHECKS.about("BAR: its upper LAYERS and that of the point to the right are joined");
        ChipForge x = Chips.routed(Chips.wide(0));
        x.damage(1, 22, 5);
        faults("the post in column 23 is at the lower layer", x, 0, 0);
        x.damage(1, 23, 6);
        faults("a via joins it", x, 0, 1);
        CHECKS.due("pins of 7 and 11", true, () -> x.joined(7, 1, 1, 0));
        x.damage(2, 22, 0);
        faults("the last bar of net 7 is gone", x, 1, 1);
    }

    private static void postInTheLastLine() {
        CHECKS.about("A POST in the last LINE joins nothing");
        ChipForge x = Chips.smallRouted();
        x.damage(3, 1, 7);
        CHECKS.due("the pins above and below", false, () -> x.joined(0, 0, 1, 0));
        x.damage(3, 2, 6);
        faults("two posts in it", x, 0, 0);
        CHECKS.due("they are counted", 4 + 2, () -> x.count(4));
        ChipForge y = Chips.routed(Chips.nineTracks(1));
        for (int column = 0; column < 24; column++) {
            y.damage(10, column, 2);
        }
        faults("T 9", y, 0, 0);
    }

    private static void postBeforeTheLastLine() {
        CHECKS.about("POST: its lower LAYER and that of the point below are joined");
        ChipForge x = Chips.smallRouted();
        x.damage(1, 1, 6);
        faults("0 and 1 in column 1", x, 0, 1);
        CHECKS.due("their pins", true, () -> x.joined(0, 0, 1, 0));
        x.damage(2, 1, 5);
        faults("the post to the last line is gone", x, 1, 1);
        x.damage(0, 1, 0);
        faults("the post from the first line is gone", x, 2, 1);
    }

    private static void linesOfAnEarlierDrawing() {
        CHECKS.about("THE DRAWING has LINES 0 to T + 1: nothing is left of one with more");
        ChipForge x = nineRouted();
        for (int line = 3; line <= 10; line++) {
            for (int column = 0; column < 24; column++) {
                x.damage(line, column, 7);
            }
        }
        x.clear();
        x.gate(0, 0, 0, 1, 0);
        x.gate(1, 1, 0, 2, 1);
        x.route();
        x.damage(3, 1, 2);
        x.damage(3, 2, 2);
        faults("posts in the last line", x, 0, 0);
        CHECKS.due("pins of the lower row", false, () -> x.joined(1, 0, 1, 1));
        CHECKS.due("posts", 4 + 2, () -> x.count(4));
        x.clear();
        x.route();
        CHECKS.alike("no tracks", Chips.emptyRouted(), x);
    }

    private static void padIsAtTheUpperLayer() {
        CHECKS.about("PADS at the upper LAYER of LINE t in COLUMN 0");
        ChipForge x = Chips.routed(Chips.nineTracks(0));
        for (int line = 0; line <= 10; line++) {
            x.damage(line, 0, line >= 1 && line <= 7 ? 3 : 2);
        }
        faults("posts at the lower layer beside the pads", x, 0, 0);
        x.damage(1, 0, 7);
        faults("a via at the first pad", x, 0, 0);
        x.damage(7, 0, 7);
        faults("a via at the last pad", x, 0, 1);
        x.damage(4, 0, 4);
        faults("a via in place of the bar: a pad alone", x, 1, 1);
        x.damage(4, 0, 6);
        faults("a pad without its net", x, 1, 3);
    }

    private static void padAndPinOfOneColumn() {
        CHECKS.about("A NET is OPEN if its PINS (and PAD) are not all joined: one and a PAD");
        ChipForge x = Chips.smallRouted();
        faults("as routed", x, 0, 0);
        x.damage(1, 0, 0);
        faults("the one bar is gone", x, 1, 0);
        x.damage(1, 0, 6);
        faults("no bar, but the rest", x, 1, 0);
        x.damage(1, 0, 7);
        faults("the bar is back", x, 0, 0);
        x.damage(1, 1, 0);
        faults("the via is gone", x, 1, 0);
    }

    private static void netOfOneColumnIsOpen() {
        CHECKS.about("A NET is OPEN if its PINS are not all joined: both in one COLUMN");
        ChipForge x = Chips.routed(Chips.narrow());
        x.damage(1, 2, 2);
        faults("it needs no via", x, 0, 0);
        x.damage(2, 2, 0);
        faults("the last post is gone", x, 1, 0);
        x.damage(2, 2, 2);
        x.damage(0, 2, 0);
        faults("the first post is gone", x, 1, 0);
    }

    private static void netsThatAreNotWired() {
        CHECKS.about("OPEN, SHORT: of WIRED ones alone");
        ChipForge x = Chips.smallRouted();
        x.damage(2, 2, 6);
        CHECKS.due("the pin of net 2 is joined with net 1", true, () -> x.joined(1, 1, 0, 1));
        faults("net 2 has one pin", x, 0, 0);
        ChipForge y = fill(Chips.routed(Chips.full()), 3, 7);
        CHECKS.due("all pins are joined", true, () -> y.joined(0, 2, 11, 2));
        faults("eleven nets have one pin", y, 0, 0);
        ChipForge z = fill(Chips.routed(Chips.full()), 3, 0);
        faults("and one has 25", z, 1, 0);
    }

    private static void onePinAloneIsShort() {
        CHECKS.about("SHORT if a PIN (or PAD) of one is joined with one of the other");
        ChipForge x = Chips.smallRouted();
        x.damage(1, 1, 0);
        faults("the pin of 0 is cut off", x, 1, 0);
        x.damage(0, 1, 7);
        x.damage(0, 2, 6);
        faults("it is joined with net 1", x, 1, 1);
        ChipForge z = Chips.routed(Chips.of(new int[][] {{0, 1, 0, 0, 0}, {1, 0, 0, 2, 1}}));
        z.damage(1, 1, 0);
        z.damage(0, 1, 7);
        z.damage(0, 2, 6);
        faults("the pin of the greater net alone", z, 1, 1);
        ChipForge y = Chips.routed(Chips.wide(1));
        y.damage(2, 23, 0);
        faults("the last pin of 7 is cut off", y, 1, 0);
        y.damage(3, 22, 5);
        y.damage(3, 23, 4);
        faults("it is joined with net 11", y, 1, 1);
    }

    private static void nothingIsLeft() {
        CHECKS.about("How many NETS are OPEN: all of them");
        faults("two", fill(Chips.smallRouted(), 4, 0), 2, 0);
        faults("nine", fill(nineRouted(), 11, 0), 9, 0);
        faults("twelve", fill(Chips.routed(Chips.ring()), 6, 0), 12, 0);
        faults("twelve with 36 pins", fill(Chips.routed(Chips.fullest()), 11, 0), 12, 0);
        faults("none", Chips.routed(Chips.ring()), 0, 0);
        faults("none of 36 pins", Chips.routed(Chips.fullest()), 0, 0);
    }

    private static void everythingIsJoined() {
        CHECKS.about("or pairs of them are SHORT: all of them");
        faults("two", fill(Chips.smallRouted(), 4, 7), 0, 1);
        faults("nine", fill(nineRouted(), 11, 7), 0, 36);
        faults("twelve", fill(Chips.routed(Chips.ring()), 6, 7), 0, 66);
        faults("twelve with 36 pins", fill(Chips.routed(Chips.fullest()), 11, 7), 0, 66);
    }

    private static void fewerPinsThanBefore() {
        CHECKS.about("FOUND are by THE DRAWING as it is now: nothing is left of one with more PINS");
        ChipForge x = fill(Chips.routed(Chips.fullest()), 11, 7);
        faults("36 pins are joined", x, 0, 66);
        toSmall(x);
        x.damage(0, 0, 1);
        x.damage(0, 1, 6);
        faults("net 0 goes to the first point", x, 0, 0);
        ChipForge y = fill(Chips.routed(Chips.ring()), 6, 7);
        faults("24 pins are joined", y, 0, 66);
        toSmall(y);
        y.damage(0, 0, 1);
        y.damage(0, 1, 3);
        y.damage(0, 2, 6);
        faults("net 1 goes to the first point", y, 0, 0);
    }

    private static void toSmall(ChipForge x) {
        x.clear();
        x.gate(0, 0, 0, 1, 0);
        x.gate(1, 1, 0, 2, 1);
        x.route();
        faults("as routed", x, 0, 0);
    }

    private static void noNetsAtAll() {
        CHECKS.about("How many NETS are OPEN, or SHORT: no GATES");
        faults("as routed", Chips.emptyRouted(), 0, 0);
        faults("full of wires", fill(Chips.emptyRouted(), 2, 7), 0, 0);
    }

    private static void countOfAllPoints() {
        CHECKS.about("3: BARS, 4: POSTS, 5: VIAS of THE DRAWING as it is now");
        for (int l : new int[] {2, 4, 11}) {
            ChipForge x = l == 2 ? Chips.emptyRouted() : l == 4 ? Chips.smallRouted() : nineRouted();
            fill(x, l, 7);
            for (int what = 3; what <= 5; what++) {
                int w = what;
                CHECKS.due("all points: count(" + w + ")", 24 * l, () -> x.count(w));
            }
            x.damage(l - 1, 23, 0);
            for (int what = 3; what <= 5; what++) {
                int w = what;
                CHECKS.due("but one: count(" + w + ")", 24 * l - 1, () -> x.count(w));
            }
        }
        ChipForge y = fill(Chips.smallRouted(), 4, 0);
        for (int what = 3; what <= 5; what++) {
            int w = what;
            CHECKS.due("none: count(" + w + ")", 0, () -> y.count(w));
            y.damage(0, 0, 1 << (w - 3));
            CHECKS.due("one: count(" + w + ")", 1, () -> y.count(w));
            y.damage(0, 0, 7 - (1 << (w - 3)));
            CHECKS.due("the others: count(" + w + ")", 0, () -> y.count(w));
            y.damage(0, 0, 0);
        }
        CHECKS.due("damage makes no track", 2, () -> y.count(2));
    }
}
