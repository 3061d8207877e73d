import java.io.IOException;
import java.lang.reflect.Method;
import java.lang.reflect.Modifier;
import java.nio.charset.StandardCharsets;
import java.nio.file.Files;
import java.nio.file.Path;

/** README.md tells each call of the face, its example is right, and it says how to run the tests. */
public final class ReadmeTest {
    private static final Checks CHECKS = new Checks();

    public static void main(String[] args) throws IOException {
        String readme = Files.readString(Path.of("README.md"), StandardCharsets.UTF_8);
        tellsEachCall(readme);
        CHECKS.due("README.md tells how to run the tests", true,
                () -> readme.contains("Run `.ci/run`"));
        example(readme);
        CHECKS.end();
    }

    private static void tellsEachCall(String readme) {
        for (Method method : ChipForge.class.getDeclaredMethods()) {
            if (Modifier.isPublic(method.getModifiers())) {
                String start = "| `" + method.getName() + "(";
                CHECKS.due("README.md has a row " + start, true, () -> readme.contains(start));
            }
        }
    }

    private static void example(String readme) {
        ChipForge chip = new ChipForge();
        line(readme, "chip.gate(0, 0, 0, 1, 0);      //", 0, () -> chip.gate(0, 0, 0, 1, 0));
        line(readme, "chip.gate(1, 1, 0, 2, 1);      //", 1, () -> chip.gate(1, 1, 0, 2, 1));
        line(readme, "chip.route();     // 2\n", 2, chip::route);
        line(readme, "chip.arrival(2); // 7.0:", 7.0, () -> chip.arrival(2));
        line(readme, "chip.simulate(0); // 6:", 6, () -> chip.simulate(0));
        line(readme, "chip.damage(2, 1, 0);          //", 7, () -> chip.damage(2, 1, 0));
        line(readme, "chip.faults(false); // 1:", 1, () -> chip.faults(false));
    }

    /** The written line stands in README.md, and the call answers as it says. */
    private static void line(String readme, String written, Object due, Checks.Call call) {
        CHECKS.due("README.md has the line " + written, true, () -> readme.contains(written));
        CHECKS.due(written, due, call);
    }
}
