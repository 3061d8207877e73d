/** Promises 7 to 10, and what counts points of promise 15: mask, damage, joined, faults, count. */
public final class DrawingTest {
    private static final Checks CHECKS = new Checks();

    public static void main(String[] args) {
        maskOfADrawing();
        maskThrows();
        damageChangesAPoint();
        damageThrows();
        routingMendsDamage();
        joinedPins();
        joinedUnwiredPin();
        joinedThrows();
        openNets();
        openNetCountsOnce();
        shortNets();
        padsAloneMakeAShort();
        edgesJoinNothing();
        layersCross();
        countOfPoints();
        CHECKS.end();
    }

    /** INVERT of 0 to 1 above, COPY of 1 to 2 below: two tracks, net 2 has one pin. */
    private static ChipForge small() {
        ChipForge x = new ChipForge();
        x.gate(0, 0, 0, 1, 0);
        x.gate(1, 1, 0, 2, 1);
        x.route();
        return x;
    }

    /** NAND of 0 and 1 to 2 above, COPY of 2 to 3 below: three tracks, net 3 has one pin. */
    private static ChipForge wide() {
        ChipForge x = new ChipForge();
        x.gate(2, 0, 1, 2, 0);
        x.gate(1, 2, 0, 3, 1);
        x.route();
        return x;
    }

    private static void faults(String told, ChipForge x, int open, int shorts) {
        CHECKS.due(told + ": open", open, () -> x.faults(false));
        CHECKS.due(told + ": short", shorts, () -> x.faults(true));
    }

    private static void points(String told, ChipForge x, int[][] due) {
        for (int line = 0; line < due.length; line++) {
            for (int column = 0; column < 24; column++) {
                int l = line;
                int c = column;
                int want = c < due[l].length ? due[l][c] : 0;
                CHECKS.due(told + ": mask(" + l + ", " + c + ")", want, () -> x.mask(l, c));
            }
        }
        CHECKS.index(told + ": no more lines", () -> x.mask(due.length, 0));
    }

    private static void maskOfADrawing() {
        points("small", small(), new int[][] {{0, 2, 2}, {1, 4, 2}, {0, 7, 4}, {}});
        points("wide", wide(), new int[][] {
            {0, 2, 2, 2}, {1, 4, 2, 2}, {1, 1, 4, 2}, {0, 7, 1, 4}, {}
        });
    }

    private static void maskThrows() {
        ChipForge x = small();
        CHECKS.index("line -1", () -> x.mask(-1, 0));
        CHECKS.index("line 4", () -> x.mask(4, 0));
        CHECKS.index("column -1", () -> x.mask(0, -1));
        CHECKS.index("column 24", () -> x.mask(0, 24));
        CHECKS.index("far out", () -> x.mask(Integer.MAX_VALUE, Integer.MIN_VALUE));
        x.gate(0, 3, 0, 4, 0);
        CHECKS.state("not routed", () -> x.mask(0, 0));
        CHECKS.state("not routed, no such point", () -> x.mask(-1, 99));
    }

    private static void damageChangesAPoint() {
        ChipForge x = small();
        CHECKS.due("damage answers what was", 7, () -> x.damage(2, 1, 3));
        CHECKS.due("damage again", 3, () -> x.damage(2, 1, 0));
        CHECKS.due("and again", 0, () -> x.damage(2, 1, 7));
        CHECKS.due("what is now", 7, () -> x.mask(2, 1));
        CHECKS.due("a free point", 0, () -> x.damage(3, 23, 5));
        CHECKS.due("a free point now", 5, () -> x.mask(3, 23));
        CHECKS.due("others stay", 4, () -> x.mask(1, 1));
    }

    private static void damageThrows() {
        ChipForge x = small();
        CHECKS.argument("bits -1", () -> x.damage(0, 0, -1));
        CHECKS.argument("bits 8", () -> x.damage(0, 0, 8));
        CHECKS.argument("bits 8, no such point", () -> x.damage(9, 0, 8));
        CHECKS.index("line 4", () -> x.damage(4, 0, 1));
        CHECKS.index("line -1", () -> x.damage(-1, 0, 1));
        CHECKS.index("column 24", () -> x.damage(0, 24, 1));
        CHECKS.index("column -1", () -> x.damage(0, -1, 1));
        CHECKS.due("nothing was changed", 0, () -> x.mask(0, 0));
        x.clear();
        CHECKS.argument("not routed, bits 8", () -> x.damage(0, 0, 8));
        CHECKS.state("not routed", () -> x.damage(0, 0, 1));
        CHECKS.state("not routed, no such point", () -> x.damage(99, 0, 1));
    }

    private static void routingMendsDamage() {
        ChipForge x = small();
        x.damage(1, 1, 0);
        x.damage(3, 20, 7);
        faults("damaged", x, 1, 0);
        CHECKS.due("routed again", 2, x::route);
        points("routed again", x, new int[][] {{0, 2, 2}, {1, 4, 2}, {0, 7, 4}, {}});
        faults("routed again", x, 0, 0);
    }

    private static void joinedPins() {
        ChipForge x = small();
        CHECKS.due("a pin with itself", true, () -> x.joined(0, 0, 0, 0));
        CHECKS.due("pins of one net", true, () -> x.joined(0, 1, 1, 0));
        CHECKS.due("the other way round", true, () -> x.joined(1, 0, 0, 1));
        CHECKS.due("pins of two nets", false, () -> x.joined(0, 0, 0, 1));
        CHECKS.due("pins in one column", false, () -> x.joined(0, 0, 1, 0));
        CHECKS.due("a pin that is not wired", false, () -> x.joined(0, 1, 1, 1));
        x.damage(2, 2, 0);
        CHECKS.due("a via is gone", false, () -> x.joined(0, 1, 1, 0));
        x.damage(2, 2, 4);
        x.damage(2, 1, 6);
        CHECKS.due("a bar is gone", false, () -> x.joined(0, 1, 1, 0));
        x.damage(2, 1, 5);
        CHECKS.due("a post is gone", false, () -> x.joined(0, 1, 1, 0));
        x.damage(2, 1, 7);
        CHECKS.due("all is mended", true, () -> x.joined(0, 1, 1, 0));
    }

    private static void joinedUnwiredPin() {
        ChipForge x = small();
        x.damage(2, 2, 6);
        CHECKS.due("a post to the pin that is not wired", true, () -> x.joined(1, 1, 0, 1));
        CHECKS.due("and on to the other end", true, () -> x.joined(1, 1, 1, 0));
        faults("a net that is not wired is not short", x, 0, 0);
    }

    private static void joinedThrows() {
        ChipForge x = small();
        CHECKS.index("g -1", () -> x.joined(-1, 0, 0, 0));
        CHECKS.index("g 2", () -> x.joined(2, 0, 0, 0));
        CHECKS.index("i -1", () -> x.joined(0, -1, 0, 0));
        CHECKS.index("i 2", () -> x.joined(0, 2, 0, 0));
        CHECKS.index("h -1", () -> x.joined(0, 0, -1, 0));
        CHECKS.index("h 2", () -> x.joined(0, 0, 2, 0));
        CHECKS.index("j -1", () -> x.joined(0, 0, 0, -1));
        CHECKS.index("j 2", () -> x.joined(0, 0, 0, 2));
        CHECKS.due("the third pin of a NAND", true, () -> wide().joined(0, 2, 1, 0));
        x.gate(0, 5, 0, 6, 0);
        CHECKS.state("not routed", () -> x.joined(0, 0, 0, 0));
        CHECKS.state("not routed, no such pin", () -> x.joined(9, 9, 9, 9));
    }

    private static void openNets() {
        ChipForge x = wide();
        faults("as routed", x, 0, 0);
        x.damage(1, 0, 0);
        faults("the pad of 0 is cut off", x, 1, 0);
        x.damage(2, 1, 0);
        faults("so is that of 1", x, 2, 0);
        x.damage(0, 3, 0);
        faults("so is a pin of 2", x, 3, 0);
        x.damage(1, 0, 1);
        faults("0 is mended", x, 2, 0);
        x.clear();
        CHECKS.state("not routed: open", () -> x.faults(false));
        CHECKS.state("not routed: short", () -> x.faults(true));
    }

    private static void openNetCountsOnce() {
        ChipForge x = new ChipForge();
        x.gate(2, 0, 0, 1, 0);
        x.gate(2, 0, 0, 2, 0);
        x.route();
        for (int c = 0; c < 24; c++) {
            x.damage(1, c, 0);
        }
        faults("a net in five pieces", x, 1, 0);
    }

    private static void shortNets() {
        ChipForge x = wide();
        x.damage(0, 1, 7);
        faults("a bar without the second via", x, 0, 0);
        x.damage(0, 2, 6);
        faults("0 and 1", x, 0, 1);
        x.damage(0, 2, 7);
        faults("a second bar without a via", x, 0, 1);
        x.damage(0, 3, 6);
        faults("three nets are three pairs", x, 0, 3);
        CHECKS.due("pins of two nets are joined", true, () -> x.joined(0, 0, 1, 0));
        x.damage(0, 2, 0);
        faults("1 is cut off, the bar ends", x, 1, 0);
    }

    private static void padsAloneMakeAShort() {
        ChipForge x = wide();
        x.damage(1, 0, 6);
        faults("the pad of 0 is cut off", x, 1, 0);
        x.damage(2, 0, 4);
        faults("the pads of 0 and 1 are joined with nothing else", x, 2, 1);
    }

    private static void edgesJoinNothing() {
        ChipForge x = small();
        x.damage(0, 2, 7);
        for (int c = 3; c < 24; c++) {
            x.damage(0, c, 1);
        }
        faults("a bar in the last column", x, 0, 0);
        x.damage(3, 1, 7);
        x.damage(3, 2, 7);
        faults("posts in the last line", x, 0, 0);
        CHECKS.due("a bar in the last line joins", true, () -> x.joined(1, 0, 1, 1));
        CHECKS.due("bars are counted there too", 2 + 22 + 2, () -> x.count(3));
        CHECKS.due("posts are counted there too", 4 + 2, () -> x.count(4));
    }

    private static void layersCross() {
        ChipForge x = small();
        x.damage(1, 1, 5);
        x.damage(1, 2, 3);
        faults("bars go over posts", x, 0, 0);
        x.damage(1, 2, 7);
        faults("a via joins them", x, 0, 1);
    }

    private static void countOfPoints() {
        ChipForge x = small();
        CHECKS.due("bars", 2, () -> x.count(3));
        CHECKS.due("posts", 4, () -> x.count(4));
        CHECKS.due("vias", 3, () -> x.count(5));
        x.damage(3, 23, 7);
        CHECKS.due("bars and one more", 3, () -> x.count(3));
        CHECKS.due("posts and one more", 5, () -> x.count(4));
        CHECKS.due("vias and one more", 4, () -> x.count(5));
        x.damage(2, 1, 1);
        CHECKS.due("bars as before", 3, () -> x.count(3));
        CHECKS.due("a post less", 4, () -> x.count(4));
        CHECKS.due("a via less", 3, () -> x.count(5));
        x.clear();
        for (int what = 0; what <= 5; what++) {
            int w = what;
            CHECKS.due("cleared: count(" + w + ")", 0, () -> x.count(w));
        }
    }
}
