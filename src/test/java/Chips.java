/** Chips that several tests look at; each call makes a new one. */
final class Chips {
    private Chips() {
    }

    /** Gates as rows of kind, a, b, out, row. */
    static ChipForge of(int[]... gates) {
        ChipForge x = new ChipForge();
        for (int[] g : gates) {
            x.gate(g[0], g[1], g[2], g[3], g[4]);
        }
        return x;
    }

    static ChipForge routed(ChipForge x) {
        x.route();
        return x;
    }

    /** No gates, and routed: the drawing has lines 0 and 1. */
    static ChipForge emptyRouted() {
        return routed(new ChipForge());
    }

    /** INVERT of 0 to 1 above, COPY of 1 to 2 below: two tracks, net 2 has one pin. */
    static ChipForge small() {
        return of(new int[][] {{0, 0, 0, 1, 0}, {1, 1, 0, 2, 1}});
    }

    static ChipForge smallRouted() {
        return routed(small());
    }

    /** Net 1 has its two pins in column 2, above and below: its span is that one column. */
    static ChipForge narrow() {
        return of(new int[][] {{1, 0, 0, 1, 0}, {2, 5, 1, 6, 1}});
    }

    /** Eight gates from column 1 to 23: net 7 goes from 1 to 23, net 11 from its pad to 22. */
    static ChipForge wide(int row) {
        return of(new int[][] {
            {1, 7, 0, 0, row}, {1, 11, 0, 1, row}, {1, 11, 0, 2, row}, {1, 11, 0, 3, row},
            {1, 11, 0, 4, row}, {1, 11, 0, 5, row}, {1, 11, 0, 6, row}, {1, 11, 0, 7, row}
        });
    }

    /** Twelve gates of three pins, as many as there can be; net 0 has 25 pins, others have one. */
    static ChipForge full() {
        ChipForge x = new ChipForge();
        for (int g = 0; g < 12; g++) {
            x.gate(2, 0, 0, g, g % 2);
        }
        return x;
    }

    /** Twelve gates, 36 pins, twelve wired nets, nine tracks: there can be no more of any. */
    static ChipForge fullest() {
        return of(new int[][] {
            {2, 6, 8, 11, 0}, {2, 7, 10, 5, 1}, {2, 9, 1, 1, 0}, {2, 10, 6, 10, 1},
            {2, 5, 8, 9, 0}, {2, 3, 1, 7, 1}, {2, 5, 11, 3, 0}, {2, 4, 3, 8, 1},
            {2, 11, 9, 2, 0}, {2, 2, 0, 0, 1}, {2, 0, 2, 4, 0}, {2, 4, 7, 6, 1}
        });
    }

    /** The pads of nets 0 to 6 and the nets 7 and 8 all pass column 2. */
    static ChipForge nineTracks(int row) {
        return of(new int[][] {
            {2, 7, 8, 9, row}, {2, 0, 1, 7, row}, {2, 2, 3, 8, row}, {2, 4, 5, 10, row},
            {2, 6, 6, 11, row}
        });
    }

    /** As nineTracks, but net 9 has a second pin: it passes column 3, with nine others. */
    static ChipForge tenTracks(int row) {
        return of(new int[][] {
            {2, 7, 8, 9, row}, {2, 0, 1, 7, row}, {2, 2, 3, 8, row}, {2, 4, 5, 10, row},
            {2, 6, 9, 11, row}
        });
    }

    /** 0 is above 1 in column 1, 1 above 0 in column 2. */
    static ChipForge circle() {
        return of(new int[][] {{2, 0, 1, 2, 0}, {2, 1, 0, 3, 1}});
    }

    /** Nets 0 and 1 drive one another, 2 hangs on them, 3 is beside them; all in one row. */
    static ChipForge loop() {
        return of(new int[][] {{0, 0, 0, 1, 0}, {0, 1, 0, 0, 0}, {1, 1, 0, 2, 0}, {1, 4, 0, 3, 0}});
    }

    /** Twelve gates, each behind the one before, the first behind the last: all nets are wired. */
    static ChipForge ring() {
        ChipForge x = new ChipForge();
        for (int g = 0; g < 12; g++) {
            x.gate(1, (g + 11) % 12, 0, g, g < 8 ? 0 : 1);
        }
        return x;
    }

    /** Eleven gates, from net 0 to net 11: no longer way is there without a loop. */
    static ChipForge chain() {
        ChipForge x = new ChipForge();
        for (int g = 0; g < 11; g++) {
            x.gate(0, g, 0, g + 1, g < 7 ? 0 : 1);
        }
        return x;
    }
}
