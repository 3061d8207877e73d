import java.util.ArrayDeque;
import java.util.ArrayList;
import java.util.Arrays;
import java.util.Comparator;
import java.util.Deque;
import java.util.HashMap;
import java.util.HashSet;
import java.util.List;
import java.util.Map;
import java.util.Random;
import java.util.Set;
import java.util.TreeMap;

/** Long runs of calls, answered by the program and by a second, plainer telling of the document. */
public final class ModelTest {
    /** No sum of powers of two, so that the order in which times are added shows in the doubles. */
    private static final double TIME_STEP = 0.3;
    private static final int RUNS = 400;
    private static final int CALLS = 512;

    private static final String[] NAMES = {
        "gate", "clear", "route", "column", "net", "mask", "damage", "joined", "faults", "time",
        "delay", "arrival", "simulate", "count"
    };

    private static final int[] LIMITS_OF_FIRST = {4, 1, 1, 12, 12, 11, 11, 12, 2, 4, 12, 12, 1, 6};

    public static void main(String[] args) {
        Map<String, Integer> seen = new TreeMap<>();
        int wrong = 0;
        for (int run = 0; run < RUNS && wrong < 10; run++) {
            wrong += oneRun(run, seen);
        }
        System.out.println(wrong + " wrong answers; calls by how they ended: " + seen);
        if (wrong != 0) {
            System.exit(1);
        }
    }

    private static int oneRun(int run, Map<String, Integer> seen) {
        Random random = new Random(run);
        ChipForge program = new ChipForge();
        Model model = new Model();
        int gateWish = 2 + random.nextInt(11);
        for (int call = 0; call < CALLS; call++) {
            int method = pick(random, model, gateWish);
            int[] p = new int[5];
            for (int k = 0; k < 5; k++) {
                p[k] = argument(random, method, k);
            }
            Object want = Checks.answer(() -> model.call(method, p));
            Object got = Checks.answer(() -> callProgram(program, method, p));
            String name = NAMES[method];
            boolean thrown = want instanceof String;
            seen.merge(name + (thrown ? " " + want : ""), 1, Integer::sum);
            if (!want.equals(got)) {
                System.out.println("run " + run + ", call " + call + ": " + name
                        + Arrays.toString(p) + " answered " + got + ", due is " + want);
                return 1;
            }
        }
        return 0;
    }

    /** Seldom what undoes a routing, so that damage gathers and is looked at. */
    private static int pick(Random random, Model model, int gateWish) {
        if (model.gates.size() < gateWish && random.nextInt(3) > 0) {
            return 0;
        }
        if (model.drawing == null && random.nextInt(3) == 0) {
            return 2;
        }
        int method = random.nextInt(NAMES.length);
        if (method <= 2 && random.nextInt(10) > 0) {
            method = 3 + random.nextInt(NAMES.length - 3);
        }
        return method;
    }

    /** Mostly numbers that are as said, now and then one that is not. */
    private static int argument(Random random, int method, int k) {
        if (random.nextInt(60) == 0) {
            int[] bad = {-1, 2, 4, 7, 8, 12, 24, Integer.MIN_VALUE, Integer.MAX_VALUE};
            return bad[random.nextInt(bad.length)];
        }
        if (NAMES[method].equals("simulate")) {
            return random.nextInt();
        }
        if (k == 0) {
            return random.nextInt(LIMITS_OF_FIRST[method]);
        }
        switch (NAMES[method]) {
            case "gate":
                return random.nextInt(k == 4 ? 2 : 12);
            case "net":
                return random.nextInt(7);
            case "mask":
            case "damage":
                return random.nextInt(k == 1 ? 24 : 8);
            case "joined":
                return random.nextInt(k == 2 ? 12 : 3);
            case "time":
                return random.nextInt(340);
            default:
                return random.nextInt(3);
        }
    }

    private static Object callProgram(ChipForge x, int method, int[] p) {
        switch (NAMES[method]) {
            case "gate":
                return x.gate(p[0], p[1], p[2], p[3], p[4]);
            case "clear":
                return x.clear();
            case "route":
                return x.route();
            case "column":
                return x.column(p[0], p[1]);
            case "net":
                return x.net(p[0], p[1]);
            case "mask":
                return x.mask(p[0], p[1]);
            case "damage":
                return x.damage(p[0], p[1], p[2]);
            case "joined":
                return x.joined(p[0], p[1], p[2], p[3]);
            case "faults":
                return x.faults(p[0] == 1);
            case "time":
                return x.time(p[0], p[1] * TIME_STEP);
            case "delay":
                return x.delay(p[0]);
            case "arrival":
                return x.arrival(p[0]);
            case "simulate":
                return x.simulate(p[0]);
            default:
                return x.count(p[0]);
        }
    }

    private record Gate(int kind, List<Integer> inputs, int out, int row, int first) {
        int pins() {
            return inputs.size() + 1;
        }

        int netOf(int pin) {
            return pin < inputs.size() ? inputs.get(pin) : out;
        }
    }

    /** A pin or a pad: the net, and the row (or -1 for a pad) and column. */
    private record End(int net, int row, int column) {
    }

    /** A layer of a point of the drawing. */
    private record Spot(int line, int column, boolean upper) {
    }

    private static final class Model {
        final List<Gate> gates = new ArrayList<>();
        final double[] times = {1.0, 1.0, 1.0, 1.0};
        Map<Integer, Integer> tracks = new HashMap<>();
        Map<Integer, Integer> lengths = new HashMap<>();
        int[][] drawing;

        Object call(int method, int[] p) {
            switch (NAMES[method]) {
                case "gate":
                    return gate(p[0], p[1], p[2], p[3], p[4]);
                case "clear":
                    int before = gates.size();
                    gates.clear();
                    drawing = null;
                    return before;
                case "route":
                    return route();
                case "column":
                    needPin(p[0], p[1]);
                    return gates.get(p[0]).first + p[1];
                case "net":
                    return net(p[0], p[1]);
                case "mask":
                    return point(p[0], p[1])[p[1]];
                case "damage":
                    return damage(p[0], p[1], p[2]);
                case "joined":
                    needRouted();
                    needPin(p[0], p[1]);
                    needPin(p[2], p[3]);
                    return reach(spotOf(endOf(p[0], p[1]))).contains(spotOf(endOf(p[2], p[3])));
                case "faults":
                    needRouted();
                    return p[0] == 1 ? shorts() : opens();
                case "time":
                    need(in(p[0], 4) && p[1] * TIME_STEP >= 0 && p[1] * TIME_STEP <= 100);
                    double was = times[p[0]];
                    times[p[0]] = p[1] * TIME_STEP;
                    return was;
                case "delay":
                    need(in(p[0], 12));
                    needRouted();
                    return delay(p[0]);
                case "arrival":
                    need(in(p[0], 12));
                    needRouted();
                    return arrival(p[0], 0);
                case "simulate":
                    int all = 0;
                    for (int n = 0; n < 12; n++) {
                        all += level(n, p[0], 0) ? 1 << n : 0;
                    }
                    return all;
                default:
                    return count(p[0]);
            }
        }

        private static boolean in(int number, int bound) {
            return number >= 0 && number < bound;
        }

        private static void need(boolean isSo) {
            if (!isSo) {
                throw new IllegalArgumentException();
            }
        }

        private void needRouted() {
            if (drawing == null) {
                throw new IllegalStateException();
            }
        }

        private void needPin(int g, int i) {
            if (!in(g, gates.size()) || !in(i, gates.get(g).pins())) {
                throw new IndexOutOfBoundsException();
            }
        }

        private int[] point(int line, int column) {
            needRouted();
            if (!in(line, drawing.length) || !in(column, 24)) {
                throw new IndexOutOfBoundsException();
            }
            return drawing[line];
        }

        private int gate(int kind, int a, int b, int out, int row) {
            need(in(kind, 4) && in(a, 12) && in(out, 12) && in(row, 2));
            need(kind < 2 || in(b, 12));
            Gate last = null;
            for (Gate g : gates) {
                last = g.row == row ? g : last;
            }
            int first = last == null ? 1 : last.first + last.pins() + 1;
            Gate made = new Gate(kind, kind < 2 ? List.of(a) : List.of(a, b), out, row, first);
            if (gates.size() == 12 || first + made.pins() - 1 > 23 || driver(out) >= 0) {
                throw new IllegalStateException();
            }
            gates.add(made);
            drawing = null;
            return gates.size() - 1;
        }

        private int driver(int n) {
            for (int g = 0; g < gates.size(); g++) {
                if (gates.get(g).out == n) {
                    return g;
                }
            }
            return -1;
        }

        private End endOf(int g, int i) {
            Gate gate = gates.get(g);
            return new End(gate.netOf(i), gate.row, gate.first + i);
        }

        private List<End> pins(int n) {
            List<End> found = new ArrayList<>();
            for (int g = 0; g < gates.size(); g++) {
                for (int i = 0; i < gates.get(g).pins(); i++) {
                    if (gates.get(g).netOf(i) == n) {
                        found.add(endOf(g, i));
                    }
                }
            }
            return found;
        }

        private boolean pad(int n) {
            boolean isInput = gates.stream().anyMatch(g -> g.inputs.contains(n));
            return isInput && driver(n) < 0;
        }

        private List<End> ends(int n) {
            List<End> found = pins(n);
            if (pad(n)) {
                found.add(new End(n, -1, 0));
            }
            return found;
        }

        private boolean wired(int n) {
            return ends(n).size() >= 2;
        }

        private int left(int n) {
            return wired(n) ? ends(n).stream().mapToInt(End::column).min().orElse(-1) : -1;
        }

        private int right(int n) {
            return wired(n) ? ends(n).stream().mapToInt(End::column).max().orElse(-1) : -1;
        }

        private boolean above(int high, int low) {
            for (End h : pins(high)) {
                for (End l : pins(low)) {
                    if (high != low && h.row == 0 && l.row == 1 && h.column == l.column) {
                        return wired(high) && wired(low);
                    }
                }
            }
            return false;
        }

        private int route() {
            drawing = null;
            tracks = new HashMap<>();
            List<Integer> waiting = new ArrayList<>();
            for (int n = 0; n < 12; n++) {
                if (wired(n)) {
                    waiting.add(n);
                }
            }
            waiting.sort(Comparator.comparing(this::left));
            int t = 0;
            while (!waiting.isEmpty()) {
                t++;
                if (t > 9) {
                    throw new IllegalStateException();
                }
                fill(t, waiting);
                if (!waiting.removeAll(tracks.keySet())) {
                    throw new UnsupportedOperationException();
                }
            }
            draw(t);
            return t;
        }

        private void fill(int t, List<Integer> waiting) {
            int end = -1;
            for (int n : waiting) {
                boolean free = left(n) > end;
                for (int high = 0; high < 12; high++) {
                    if (above(high, n)) {
                        free &= tracks.containsKey(high) && tracks.get(high) < t;
                    }
                }
                if (free) {
                    tracks.put(n, t);
                    end = right(n);
                }
            }
        }

        private void draw(int t) {
            drawing = new int[t + 2][24];
            lengths = new HashMap<>();
            for (int n : tracks.keySet()) {
                int[][] alone = new int[t + 2][24];
                int line = tracks.get(n);
                for (int c = left(n); c < right(n); c++) {
                    alone[line][c] |= 1;
                }
                for (End pin : pins(n)) {
                    alone[line][pin.column] |= 4;
                    int to = pin.row == 0 ? line : t + 1;
                    for (int k = pin.row == 0 ? 0 : line; k < to; k++) {
                        alone[k][pin.column] |= 2;
                    }
                }
                lengths.put(n, bits(alone, 1) + bits(alone, 2));
                for (int k = 0; k < t + 2; k++) {
                    for (int c = 0; c < 24; c++) {
                        drawing[k][c] |= alone[k][c];
                    }
                }
            }
        }

        private static int bits(int[][] points, int bit) {
            int found = 0;
            for (int[] line : points) {
                for (int point : line) {
                    found += (point & bit) == bit ? 1 : 0;
                }
            }
            return found;
        }

        private int damage(int line, int column, int bits) {
            need(in(bits, 8));
            int[] row = point(line, column);
            int was = row[column];
            row[column] = bits;
            return was;
        }

        private Spot spotOf(End end) {
            if (end.row < 0) {
                return new Spot(tracks.get(end.net), 0, true);
            }
            return new Spot(end.row == 0 ? 0 : drawing.length - 1, end.column, false);
        }

        private boolean has(int line, int column, int bit) {
            return in(line, drawing.length) && in(column, 24) && (drawing[line][column] & bit) != 0;
        }

        private Set<Spot> reach(Spot from) {
            Set<Spot> known = new HashSet<>(Set.of(from));
            Deque<Spot> open = new ArrayDeque<>(known);
            while (!open.isEmpty()) {
                Spot s = open.remove();
                List<Spot> next = new ArrayList<>();
                if (has(s.line, s.column, 4)) {
                    next.add(new Spot(s.line, s.column, !s.upper));
                }
                if (s.upper && s.column < 23 && has(s.line, s.column, 1)) {
                    next.add(new Spot(s.line, s.column + 1, true));
                }
                if (s.upper && has(s.line, s.column - 1, 1)) {
                    next.add(new Spot(s.line, s.column - 1, true));
                }
                if (!s.upper && s.line < drawing.length - 1 && has(s.line, s.column, 2)) {
                    next.add(new Spot(s.line + 1, s.column, false));
                }
                if (!s.upper && has(s.line - 1, s.column, 2)) {
                    next.add(new Spot(s.line - 1, s.column, false));
                }
                for (Spot n : next) {
                    if (known.add(n)) {
                        open.add(n);
                    }
                }
            }
            return known;
        }

        private int opens() {
            int found = 0;
            for (int n = 0; n < 12; n++) {
                if (wired(n)) {
                    Set<Spot> reached = reach(spotOf(ends(n).get(0)));
                    boolean all = ends(n).stream().allMatch(e -> reached.contains(spotOf(e)));
                    found += all ? 0 : 1;
                }
            }
            return found;
        }

        private int shorts() {
            int found = 0;
            for (int n = 0; n < 12; n++) {
                Set<Spot> reached = new HashSet<>();
                if (wired(n)) {
                    ends(n).forEach(e -> reached.addAll(reach(spotOf(e))));
                }
                for (int m = n + 1; m < 12; m++) {
                    boolean touches = wired(m)
                            && ends(m).stream().anyMatch(e -> reached.contains(spotOf(e)));
                    found += touches ? 1 : 0;
                }
            }
            return found;
        }

        private double delay(int n) {
            double length = wired(n) ? lengths.get(n) : 0;
            return 0.25 * length * (0.5 * length + pins(n).size());
        }

        private double arrival(int n, int depth) {
            if (depth > 12) {
                throw new ArithmeticException();
            }
            if (driver(n) < 0) {
                return 0;
            }
            Gate gate = gates.get(driver(n));
            double latest = 0;
            for (int input : gate.inputs) {
                latest = Math.max(latest, arrival(input, depth + 1) + delay(input));
            }
            return latest + times[gate.kind];
        }

        private boolean level(int n, int v, int depth) {
            if (depth > 12) {
                throw new ArithmeticException();
            }
            if (driver(n) < 0) {
                return (v & 1 << n) != 0;
            }
            Gate gate = gates.get(driver(n));
            boolean a = level(gate.inputs.get(0), v, depth + 1);
            boolean b = level(gate.inputs.get(gate.inputs.size() - 1), v, depth + 1);
            switch (gate.kind) {
                case 0:
                    return !a;
                case 1:
                    return a;
                case 2:
                    return !(a && b);
                default:
                    return !(a || b);
            }
        }

        private int net(int n, int what) {
            need(in(n, 12) && in(what, 7));
            boolean hasTrack = drawing != null && wired(n);
            switch (what) {
                case 0:
                    return pins(n).size();
                case 1:
                    return driver(n);
                case 2:
                    return pad(n) ? 1 : 0;
                case 3:
                    return left(n);
                case 4:
                    return right(n);
                case 5:
                    return hasTrack ? tracks.get(n) : 0;
                default:
                    return hasTrack ? lengths.get(n) : 0;
            }
        }

        private int count(int what) {
            need(in(what, 6));
            if (what == 0) {
                return gates.size();
            }
            if (what == 1) {
                int found = 0;
                for (int n = 0; n < 12; n++) {
                    found += wired(n) ? 1 : 0;
                }
                return found;
            }
            if (drawing == null) {
                return 0;
            }
            return what == 2 ? drawing.length - 2 : bits(drawing, 1 << what - 3);
        }
    }
}
