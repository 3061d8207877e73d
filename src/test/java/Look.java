import java.util.ArrayList;
import java.util.List;

/** What an object answers to nearly all that can be asked, in fewer than 480 calls. */
final class Look {
    private static final int MOST_LINES = 11;

    private final ChipForge chip;
    private final List<String> rows = new ArrayList<>();

    private Look(ChipForge chip) {
        this.chip = chip;
    }

    /** The object is of no more use then: the last calls change it, to see from what. */
    static List<String> at(ChipForge chip) {
        Look look = new Look(chip);
        look.counts();
        look.nets();
        look.pins();
        look.points();
        look.signals();
        look.changes();
        return look.rows;
    }

    private Object row(String told, Checks.Call call) {
        Object answer = Checks.answer(call);
        rows.add(told + " answers " + answer);
        return answer;
    }

    private void counts() {
        for (int what = 0; what <= 5; what++) {
            int w = what;
            row("count(" + w + ")", () -> chip.count(w));
        }
        row("faults(false)", () -> chip.faults(false));
        row("faults(true)", () -> chip.faults(true));
    }

    private void nets() {
        for (int net = 0; net < 12; net++) {
            for (int what = 0; what <= 6; what++) {
                int n = net;
                int w = what;
                row("net(" + n + ", " + w + ")", () -> chip.net(n, w));
            }
        }
    }

    private void pins() {
        for (int gate = 0; gate < 12; gate++) {
            for (int pin = 0; pin < 3; pin++) {
                int g = gate;
                int i = pin;
                row("column(" + g + ", " + i + ")", () -> chip.column(g, i));
                row("joined(0, 0, " + g + ", " + i + ")", () -> chip.joined(0, 0, g, i));
            }
        }
    }

    private void points() {
        boolean isThere = true;
        for (int line = 0; line <= MOST_LINES && isThere; line++) {
            int l = line;
            isThere = row("mask(" + l + ", 0)", () -> chip.mask(l, 0)) instanceof Integer;
            for (int column = 1; column < 24 && isThere; column++) {
                int c = column;
                row("mask(" + l + ", " + c + ")", () -> chip.mask(l, c));
            }
        }
    }

    private void signals() {
        for (int net = 0; net < 12; net++) {
            int n = net;
            row("delay(" + n + ")", () -> chip.delay(n));
            row("arrival(" + n + ")", () -> chip.arrival(n));
        }
        row("simulate(0)", () -> chip.simulate(0));
        row("simulate(-1)", () -> chip.simulate(-1));
    }

    private void changes() {
        row("damage(0, 0, 5)", () -> chip.damage(0, 0, 5));
        row("route()", chip::route);
        for (int kind = 0; kind < 4; kind++) {
            int k = kind;
            row("time(" + k + ", 1.0)", () -> chip.time(k, 1.0));
        }
        row("gate(1, 0, 0, 10, 0)", () -> chip.gate(1, 0, 0, 10, 0));
        row("gate(1, 0, 0, 11, 1)", () -> chip.gate(1, 0, 0, 11, 1));
        row("clear()", chip::clear);
    }
}
