import java.util.Arrays;

/** Places gates, routes the nets between them, and looks at the drawn wires again. */
public final class ChipForge {
    private static final int NETS = 12;
    private static final int MOST_GATES = 12;
    private static final int KINDS = 4;
    private static final int COLUMNS = 24;
    private static final int UPPER = 0;
    private static final int LOWER = 1;
    private static final int ROWS = 2;
    private static final int MOST_TRACKS = 9;
    private static final int MOST_LINES = MOST_TRACKS + 2;
    private static final int NONE = -1;

    private static final int INVERT = 0;
    private static final int COPY = 1;
    private static final int NAND = 2;

    private static final int BAR = 1;
    private static final int POST = 2;
    private static final int VIA = 4;
    private static final int ALL_BITS = BAR | POST | VIA;

    private final Netlist netlist;
    private final Channel channel;
    private final Drawing drawing;
    private final Signals signals;
    private boolean routed;

    public ChipForge() {
        netlist = new Netlist();
        channel = new Channel(netlist);
        drawing = new Drawing(netlist, channel);
        signals = new Signals(netlist, channel);
        routed = false;
    }

    public int gate(int kind, int a, int b, int out, int row)
            throws IllegalArgumentException, IllegalStateException {
        if (!within(kind, KINDS) || !within(a, NETS) || !within(out, NETS) || !within(row, ROWS)) {
            throw new IllegalArgumentException("a kind, net or row that is not there");
        }
        boolean single = hasOneInput(kind);
        if (!single && !within(b, NETS)) {
            throw new IllegalArgumentException("the second input is no net");
        }
        if (!netlist.hasRoom(kind, row) || netlist.isDriven(out)) {
            throw new IllegalStateException("no room for the gate, or its net is driven");
        }
        routed = false;
        return netlist.add(kind, a, single ? a : b, out, row);
    }

    public int clear() {
        int before = netlist.gates;
        netlist.removeAll();
        routed = false;
        return before;
    }

    public int route() throws IllegalStateException, UnsupportedOperationException {
        // Set first, because a routing that throws leaves nothing routed.
        routed = false;
        channel.assignTracks();
        drawing.draw();
        routed = true;
        return channel.tracks;
    }

    public int column(int g, int i) throws IndexOutOfBoundsException {
        needPin(g, i);
        return netlist.pinColumn(g, i);
    }

    public int net(int n, int what) throws IllegalArgumentException {
        needNet(n);
        switch (what) {
            case 0:
                return netlist.pins(n);
            case 1:
                return netlist.driver[n];
            case 2:
                return netlist.hasPad(n) ? 1 : 0;
            case 3:
                return netlist.leftEnd(n);
            case 4:
                return netlist.rightEnd(n);
            case 5:
                return routed ? channel.track[n] : 0;
            case 6:
                return routed ? channel.wireLength(n) : 0;
            default:
                throw new IllegalArgumentException("nothing of a net has this number");
        }
    }

    public int mask(int line, int column) throws IllegalStateException, IndexOutOfBoundsException {
        needPoint(line, column);
        return drawing.points[line][column];
    }

    public int damage(int line, int column, int bits)
            throws IllegalArgumentException, IllegalStateException, IndexOutOfBoundsException {
        if (bits < 0 || bits > ALL_BITS) {
            throw new IllegalArgumentException("a point holds 0 to 7");
        }
        needPoint(line, column);
        int before = drawing.points[line][column];
        drawing.points[line][column] = bits;
        return before;
    }

    public boolean joined(int g, int i, int h, int j)
            throws IllegalStateException, IndexOutOfBoundsException {
        needRouted();
        needPin(g, i);
        needPin(h, j);
        drawing.findGroups();
        return drawing.groupOfPin(g, i) == drawing.groupOfPin(h, j);
    }

    public int faults(boolean isShort) throws IllegalStateException {
        needRouted();
        drawing.findGroups();
        drawing.collectEnds();
        return isShort ? drawing.shortPairs() : drawing.openNets();
    }

    public double time(int kind, double v) throws IllegalArgumentException {
        // Asked in this way round, so that what is no number is refused as well.
        boolean allowed = v >= 0.0 && v <= 100.0;
        if (!within(kind, KINDS) || !allowed) {
            throw new IllegalArgumentException("no such kind, or a time that is not 0 to 100");
        }
        double before = signals.times[kind];
        signals.times[kind] = v;
        return before;
    }

    public double delay(int n) throws IllegalArgumentException, IllegalStateException {
        needNet(n);
        needRouted();
        return channel.wireDelay(n);
    }

    public double arrival(int n)
            throws IllegalArgumentException, IllegalStateException, ArithmeticException {
        needNet(n);
        needRouted();
        signals.orderGates();
        if (!signals.isSettled(n)) {
            throw new ArithmeticException("the arrival depends on itself");
        }
        return signals.arrivalAt(n);
    }

    public int simulate(int v) throws ArithmeticException {
        signals.orderGates();
        if (!signals.allSettled()) {
            throw new ArithmeticException("a net depends on itself");
        }
        return signals.levels(v);
    }

    public int count(int what) throws IllegalArgumentException {
        switch (what) {
            case 0:
                return netlist.gates;
            case 1:
                return netlist.wiredNets();
            case 2:
                return routed ? channel.tracks : 0;
            case 3:
                return routed ? drawing.pointsWith(BAR) : 0;
            case 4:
                return routed ? drawing.pointsWith(POST) : 0;
            case 5:
                return routed ? drawing.pointsWith(VIA) : 0;
            default:
                throw new IllegalArgumentException("nothing that is counted has this number");
        }
    }

    private void needNet(int n) {
        if (!within(n, NETS)) {
            throw new IllegalArgumentException("nets are 0 to 11");
        }
    }

    private void needRouted() {
        if (!routed) {
            throw new IllegalStateException("nothing is routed");
        }
    }

    private void needPin(int g, int i) {
        if (!netlist.hasPin(g, i)) {
            throw new IndexOutOfBoundsException("no such pin");
        }
    }

    private void needPoint(int line, int column) {
        needRouted();
        if (!within(line, channel.lines()) || !within(column, COLUMNS)) {
            throw new IndexOutOfBoundsException("no such point of the drawing");
        }
    }

    private static boolean within(int number, int bound) {
        return number >= 0 && number < bound;
    }

    private static boolean hasOneInput(int kind) {
        return kind == INVERT || kind == COPY;
    }

    private static int pinsOfKind(int kind) {
        return hasOneInput(kind) ? 2 : 3;
    }

    /** The gates, where they stand, and what follows for the nets before any routing. */
    private static final class Netlist {
        private static final int FIRST_COLUMN = 1;
        private static final int PAD_COLUMN = 0;

        int gates;
        final int[] kind = new int[MOST_GATES];
        final int[] inputA = new int[MOST_GATES];
        /** Of a gate with one input it is the first one again, so that none is a special case. */
        final int[] inputB = new int[MOST_GATES];
        final int[] out = new int[MOST_GATES];
        final int[] row = new int[MOST_GATES];
        private final int[] firstColumn = new int[MOST_GATES];
        private final int[] nextColumn = new int[ROWS];

        /** The net of the pin in a row and column, or NONE. */
        final int[][] pinNet = new int[ROWS][COLUMNS];
        /** How many pins a net has in a row. */
        final int[][] rowPins = new int[ROWS][NETS];
        private final int[] leftPin = new int[NETS];
        private final int[] rightPin = new int[NETS];
        final int[] driver = new int[NETS];

        Netlist() {
            removeAll();
        }

        void removeAll() {
            gates = 0;
            for (int r = 0; r < ROWS; r++) {
                nextColumn[r] = FIRST_COLUMN;
                Arrays.fill(pinNet[r], NONE);
                Arrays.fill(rowPins[r], 0);
            }
            Arrays.fill(leftPin, COLUMNS);
            Arrays.fill(rightPin, NONE);
            Arrays.fill(driver, NONE);
        }

        /** The column behind the gate may be beyond the last one: no pin stands there. */
        boolean hasRoom(int newKind, int newRow) {
            return gates < MOST_GATES && nextColumn[newRow] + pinsOfKind(newKind) <= COLUMNS;
        }

        int add(int newKind, int a, int b, int newOut, int newRow) {
            int g = gates;
            int first = nextColumn[newRow];
            int last = first + pinsOfKind(newKind) - 1;
            kind[g] = newKind;
            inputA[g] = a;
            inputB[g] = b;
            out[g] = newOut;
            row[g] = newRow;
            firstColumn[g] = first;
            driver[newOut] = g;
            addPin(newRow, first, a);
            if (!hasOneInput(newKind)) {
                addPin(newRow, first + 1, b);
            }
            addPin(newRow, last, newOut);
            nextColumn[newRow] = last + 2;
            gates++;
            return g;
        }

        private void addPin(int r, int c, int n) {
            pinNet[r][c] = n;
            rowPins[r][n]++;
            leftPin[n] = Math.min(leftPin[n], c);
            rightPin[n] = Math.max(rightPin[n], c);
        }

        boolean hasPin(int g, int i) {
            return within(g, gates) && within(i, pinsOfKind(kind[g]));
        }

        int pinColumn(int g, int i) {
            return firstColumn[g] + i;
        }

        boolean isDriven(int n) {
            return driver[n] != NONE;
        }

        int pins(int n) {
            return rowPins[UPPER][n] + rowPins[LOWER][n];
        }

        /** A net with pins that nobody drives has pins of inputs alone: it comes from outside. */
        boolean hasPad(int n) {
            return !isDriven(n) && pins(n) > 0;
        }

        boolean isWired(int n) {
            return pins(n) >= 2 || hasPad(n);
        }

        int wiredNets() {
            int found = 0;
            for (int n = 0; n < NETS; n++) {
                if (isWired(n)) {
                    found++;
                }
            }
            return found;
        }

        int leftEnd(int n) {
            if (!isWired(n)) {
                return NONE;
            }
            return hasPad(n) ? PAD_COLUMN : leftPin[n];
        }

        int rightEnd(int n) {
            return isWired(n) ? rightPin[n] : NONE;
        }

        boolean isAbove(int high, int low) {
            if (high == low || !isWired(high) || !isWired(low)) {
                return false;
            }
            for (int c = 0; c < COLUMNS; c++) {
                if (pinNet[UPPER][c] == high && pinNet[LOWER][c] == low) {
                    return true;
                }
            }
            return false;
        }
    }

    /** The tracks of the nets, and how long their wires are by them. */
    private static final class Channel {
        private final Netlist netlist;
        int tracks;
        final int[] track = new int[NETS];

        Channel(Netlist netlist) {
            this.netlist = netlist;
        }

        void assignTracks() {
            Arrays.fill(track, 0);
            tracks = 0;
            int waiting = netlist.wiredNets();
            for (int t = 1; t <= MOST_TRACKS && waiting > 0; t++) {
                int placed = fillTrack(t);
                if (placed == 0) {
                    throw new UnsupportedOperationException("nets are above one another in a circle");
                }
                waiting -= placed;
                tracks = t;
            }
            if (waiting > 0) {
                throw new IllegalStateException("more than 9 tracks are needed");
            }
        }

        private int fillTrack(int t) {
            int placed = 0;
            int takenTo = NONE;
            for (int left = 0; left < COLUMNS; left++) {
                for (int n = 0; n < NETS; n++) {
                    boolean waits = track[n] == 0 && netlist.leftEnd(n) == left;
                    if (waits && left > takenTo && isFreeFromAbove(n, t)) {
                        track[n] = t;
                        takenTo = netlist.rightEnd(n);
                        placed++;
                    }
                }
            }
            return placed;
        }

        private boolean isFreeFromAbove(int n, int t) {
            for (int high = 0; high < NETS; high++) {
                boolean before = track[high] > 0 && track[high] < t;
                if (!before && netlist.isAbove(high, n)) {
                    return false;
                }
            }
            return true;
        }

        int lines() {
            return tracks + 2;
        }

        int wireLength(int n) {
            if (track[n] == 0) {
                return 0;
            }
            int bars = netlist.rightEnd(n) - netlist.leftEnd(n);
            int upperPosts = netlist.rowPins[UPPER][n] * track[n];
            int lowerPosts = netlist.rowPins[LOWER][n] * (tracks + 1 - track[n]);
            return bars + upperPosts + lowerPosts;
        }

        double wireDelay(int n) {
            if (track[n] == 0) {
                return 0.0;
            }
            double length = wireLength(n);
            return 0.25 * length * (0.5 * length + netlist.pins(n));
        }
    }

    /** The points with their bars, posts and vias, and what these join. */
    private static final class Drawing {
        private static final int LAYERS = 2;
        private static final int UPPER_LAYER = 0;
        private static final int LOWER_LAYER = 1;
        private static final int SPOTS = MOST_LINES * COLUMNS * LAYERS;
        private static final int MOST_ENDS = ROWS * COLUMNS + NETS;

        private final Netlist netlist;
        private final Channel channel;
        final int[][] points = new int[MOST_LINES][COLUMNS];
        /** For each spot (a layer of a point) another one of its group, never a greater one. */
        private final int[] lesser = new int[SPOTS];

        /** The pins and pads of the wired nets: the net and the group of each. */
        private final int[] endNet = new int[MOST_ENDS];
        private final int[] endGroup = new int[MOST_ENDS];
        private int ends;

        Drawing(Netlist netlist, Channel channel) {
            this.netlist = netlist;
            this.channel = channel;
        }

        void draw() {
            for (int line = 0; line < MOST_LINES; line++) {
                Arrays.fill(points[line], 0);
            }
            for (int n = 0; n < NETS; n++) {
                if (channel.track[n] > 0) {
                    drawBars(n);
                }
            }
            for (int c = 0; c < COLUMNS; c++) {
                drawPin(UPPER, c);
                drawPin(LOWER, c);
            }
        }

        private void drawBars(int n) {
            int right = netlist.rightEnd(n);
            for (int c = netlist.leftEnd(n); c >= 0 && c < right; c++) {
                points[channel.track[n]][c] |= BAR;
            }
        }

        private void drawPin(int row, int c) {
            int n = netlist.pinNet[row][c];
            if (n == NONE || channel.track[n] == 0) {
                return;
            }
            int t = channel.track[n];
            int from = row == UPPER ? 0 : t;
            int before = row == UPPER ? t : channel.tracks + 1;
            points[t][c] |= VIA;
            for (int line = from; line < before; line++) {
                points[line][c] |= POST;
            }
        }

        int pointsWith(int bit) {
            int found = 0;
            for (int line = 0; line < channel.lines(); line++) {
                for (int c = 0; c < COLUMNS; c++) {
                    if ((points[line][c] & bit) != 0) {
                        found++;
                    }
                }
            }
            return found;
        }

        void findGroups() {
            for (int spot = 0; spot < SPOTS; spot++) {
                lesser[spot] = spot;
            }
            for (int line = 0; line < channel.lines(); line++) {
                for (int c = 0; c < COLUMNS; c++) {
                    joinAt(line, c);
                }
            }
        }

        private void joinAt(int line, int c) {
            int bits = points[line][c];
            if ((bits & BAR) != 0 && c + 1 < COLUMNS) {
                join(spot(line, c, UPPER_LAYER), spot(line, c + 1, UPPER_LAYER));
            }
            if ((bits & POST) != 0 && line + 1 < channel.lines()) {
                join(spot(line, c, LOWER_LAYER), spot(line + 1, c, LOWER_LAYER));
            }
            if ((bits & VIA) != 0) {
                join(spot(line, c, UPPER_LAYER), spot(line, c, LOWER_LAYER));
            }
        }

        private static int spot(int line, int c, int layer) {
            return (line * COLUMNS + c) * LAYERS + layer;
        }

        private void join(int one, int other) {
            int oneGroup = group(one);
            int otherGroup = group(other);
            lesser[Math.max(oneGroup, otherGroup)] = Math.min(oneGroup, otherGroup);
        }

        /** The least spot of the group. */
        private int group(int start) {
            int at = start;
            for (int step = 0; step < SPOTS && lesser[at] != at; step++) {
                // Halves the way for those who come later.
                lesser[at] = lesser[lesser[at]];
                at = lesser[at];
            }
            return at;
        }

        private int groupOfRow(int row, int c) {
            int line = row == UPPER ? 0 : channel.tracks + 1;
            return group(spot(line, c, LOWER_LAYER));
        }

        int groupOfPin(int g, int i) {
            return groupOfRow(netlist.row[g], netlist.pinColumn(g, i));
        }

        void collectEnds() {
            ends = 0;
            for (int c = 0; c < COLUMNS; c++) {
                addPinEnd(UPPER, c);
                addPinEnd(LOWER, c);
            }
            for (int n = 0; n < NETS; n++) {
                if (netlist.hasPad(n)) {
                    addEnd(n, group(spot(channel.track[n], Netlist.PAD_COLUMN, UPPER_LAYER)));
                }
            }
        }

        private void addPinEnd(int row, int c) {
            int n = netlist.pinNet[row][c];
            if (n != NONE && netlist.isWired(n)) {
                addEnd(n, groupOfRow(row, c));
            }
        }

        private void addEnd(int n, int itsGroup) {
            if (ends < MOST_ENDS) {
                endNet[ends] = n;
                endGroup[ends] = itsGroup;
                ends++;
            }
        }

        int openNets() {
            int open = 0;
            for (int e = 0; e < ends; e++) {
                for (int f = 0; f < e; f++) {
                    if (endNet[e] == endNet[f] && endGroup[e] != endGroup[f]) {
                        open |= 1 << endNet[e];
                    }
                }
            }
            return Integer.bitCount(open);
        }

        int shortPairs() {
            int found = 0;
            for (int n = 0; n < NETS; n++) {
                // The nets below n alone, so that each pair is counted once.
                int below = (1 << n) - 1;
                found += Integer.bitCount(netsJoinedWith(n) & below);
            }
            return found;
        }

        private int netsJoinedWith(int n) {
            int nets = 0;
            for (int e = 0; e < ends; e++) {
                if (endNet[e] == n) {
                    nets |= netsInGroup(endGroup[e]);
                }
            }
            return nets;
        }

        private int netsInGroup(int wanted) {
            int nets = 0;
            for (int e = 0; e < ends; e++) {
                if (endGroup[e] == wanted) {
                    nets |= 1 << endNet[e];
                }
            }
            return nets;
        }
    }

    /** What goes along the nets: when it comes, and which level it has. */
    private static final class Signals {
        private final Netlist netlist;
        private final Channel channel;
        final double[] times = new double[KINDS];
        private final double[] arrivals = new double[NETS];

        /** Gates in an order in which each comes after those that drive its inputs. */
        private final int[] order = new int[MOST_GATES];
        private int ordered;
        /** As bits the nets that do not wait for a gate without a place in the order. */
        private int settledNets;

        Signals(Netlist netlist, Channel channel) {
            this.netlist = netlist;
            this.channel = channel;
            for (int kind = 0; kind < KINDS; kind++) {
                times[kind] = 1.0;
            }
        }

        /** Gates on a loop, and those behind one, get no place in the order. */
        void orderGates() {
            ordered = 0;
            settledNets = 0;
            for (int n = 0; n < NETS; n++) {
                if (!netlist.isDriven(n)) {
                    settledNets |= 1 << n;
                }
            }
            // A pass that settles no gate leaves none that a later one could settle.
            for (int pass = 0; pass < netlist.gates; pass++) {
                for (int g = 0; g < netlist.gates; g++) {
                    if (isReady(g)) {
                        order[ordered] = g;
                        ordered++;
                        settledNets |= 1 << netlist.out[g];
                    }
                }
            }
        }

        private boolean isReady(int g) {
            return !isSettled(netlist.out[g])
                    && isSettled(netlist.inputA[g])
                    && isSettled(netlist.inputB[g]);
        }

        boolean isSettled(int n) {
            return bit(settledNets, n) == 1;
        }

        boolean allSettled() {
            return ordered == netlist.gates;
        }

        /** Goes by the order that orderGates has made. */
        double arrivalAt(int n) {
            for (int m = 0; m < NETS; m++) {
                arrivals[m] = 0.0;
            }
            for (int k = 0; k < ordered; k++) {
                int g = order[k];
                double first = arrivalBehind(netlist.inputA[g]);
                double second = arrivalBehind(netlist.inputB[g]);
                double latest = second > first ? second : first;
                arrivals[netlist.out[g]] = latest + times[netlist.kind[g]];
            }
            return arrivals[n];
        }

        private double arrivalBehind(int n) {
            return arrivals[n] + channel.wireDelay(n);
        }

        /** Goes by the order that orderGates has made. */
        int levels(int outside) {
            int levels = 0;
            for (int n = 0; n < NETS; n++) {
                if (!netlist.isDriven(n)) {
                    levels |= bit(outside, n) << n;
                }
            }
            for (int k = 0; k < ordered; k++) {
                int g = order[k];
                int a = bit(levels, netlist.inputA[g]);
                int b = bit(levels, netlist.inputB[g]);
                levels |= output(netlist.kind[g], a, b) << netlist.out[g];
            }
            return levels;
        }

        private static int bit(int bits, int n) {
            return (bits >> n) & 1;
        }

        private static int output(int kind, int a, int b) {
            switch (kind) {
                case INVERT:
                    return 1 - a;
                case COPY:
                    return a;
                case NAND:
                    return 1 - (a & b);
                default:
                    return 1 - (a | b);
            }
        }
    }
}
