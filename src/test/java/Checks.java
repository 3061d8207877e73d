import java.util.List;
import java.util.Objects;
import java.util.function.Function;
import java.util.function.Supplier;

/** Counts and prints the calls whose answer is not the one that is due. */
final class Checks {
    static final String ARGUMENT = "throws.IllegalArgumentException";
    static final String STATE = "throws.IllegalStateException";
    static final String INDEX = "throws.IndexOutOfBoundsException";
    static final String ARITHMETIC = "throws.ArithmeticException";
    static final String UNSUPPORTED = "throws.UnsupportedOperationException";

    /** A call of the program; a lambda in the tests. */
    interface Call {
        Object answer();
    }

    private int wrong;
    private int made;
    private String sentence = "";

    /** What a call answers, or "throws." and the name of the exception. */
    static Object answer(Call call) {
        try {
            return call.answer();
        } catch (RuntimeException e) {
            return "throws." + e.getClass().getSimpleName();
        }
    }

    /** The sentence of the document that the next answers are due by: it is printed with them. */
    void about(String words) {
        sentence = "[" + words + "] ";
    }

    void due(String told, Object want, Call call) {
        Object got = answer(call);
        made++;
        if (!Objects.equals(got, want)) {
            wrong(told + " answered " + got + ", due is " + want);
        }
    }

    private void wrong(String told) {
        wrong++;
        System.out.println(sentence + told);
    }

    /** One object answers all calls as another one does; neither is of use behind this. */
    void alike(String told, ChipForge want, ChipForge got) {
        List<String> wantRows = Look.at(want);
        List<String> gotRows = Look.at(got);
        made++;
        if (wantRows.size() != gotRows.size()) {
            wrong(told + ": the drawing has not the lines that are due");
        }
        for (int k = 0; k < Math.min(wantRows.size(), gotRows.size()); k++) {
            if (!wantRows.get(k).equals(gotRows.get(k))) {
                wrong(told + ": " + gotRows.get(k) + ", due is: " + wantRows.get(k));
            }
        }
    }

    /** The call is refused, and the calls after it answer as if it had not been made. */
    void refused(String told, String thrown, Supplier<ChipForge> maker,
            Function<ChipForge, Object> call) {
        ChipForge x = maker.get();
        due(told, thrown, () -> call.apply(x));
        alike("after the refused " + told, maker.get(), x);
    }

    void argument(String told, Call call) {
        due(told, ARGUMENT, call);
    }

    void state(String told, Call call) {
        due(told, STATE, call);
    }

    void index(String told, Call call) {
        due(told, INDEX, call);
    }

    void arithmetic(String told, Call call) {
        due(told, ARITHMETIC, call);
    }

    void unsupported(String told, Call call) {
        due(told, UNSUPPORTED, call);
    }

    /** Ends the program with exit code 1 if an answer was wrong, or if none was looked at. */
    void end() {
        System.out.println(made + " answers looked at, " + wrong + " of them wrong");
        if (wrong != 0 || made == 0) {
            System.exit(1);
        }
    }
}
