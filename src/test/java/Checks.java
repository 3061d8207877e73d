import java.util.Objects;

/** Counts and prints the calls whose answer is not the one that is due. */
final class Checks {
    /** A call of the program; a lambda in the tests. */
    interface Call {
        Object answer();
    }

    private int wrong;
    private int made;

    /** What a call answers, or "throws." and the name of the exception. */
    static Object answer(Call call) {
        try {
            return call.answer();
        } catch (RuntimeException e) {
            return "throws." + e.getClass().getSimpleName();
        }
    }

    void due(String told, Object want, Call call) {
        Object got = answer(call);
        made++;
        if (!Objects.equals(got, want)) {
            wrong++;
            System.out.println(told + " answered " + got + ", due is " + want);
        }
    }

    void argument(String told, Call call) {
        due(told, "throws.IllegalArgumentException", call);
    }

    void state(String told, Call call) {
        due(told, "throws.IllegalStateException", call);
    }

    void index(String told, Call call) {
        due(told, "throws.IndexOutOfBoundsException", call);
    }

    void arithmetic(String told, Call call) {
        due(told, "throws.ArithmeticException", call);
    }

    void unsupported(String told, Call call) {
        due(told, "throws.UnsupportedOperationException", call);
    }

    /** Ends the program with exit code 1 if an answer was wrong, or if none was looked at. */
    void end() {
        System.out.println(made + " answers looked at, " + wrong + " of them wrong");
        if (wrong != 0 || made == 0) {
            System.exit(1);
        }
    }
}
