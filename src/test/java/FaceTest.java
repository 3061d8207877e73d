import java.lang.reflect.Constructor;
import java.lang.reflect.Executable;
import java.lang.reflect.Field;
import java.lang.reflect.Method;
import java.lang.reflect.Modifier;
import java.util.ArrayList;
import java.util.Arrays;
import java.util.List;
import java.util.Set;
import java.util.TreeSet;

/** The public face is that of the document, and nothing else can be seen. */
public final class FaceTest {
    private static final Set<String> FACE = Set.of(
            "ChipForge()",
            "int gate(int,int,int,int,int) IllegalArgumentException IllegalStateException",
            "int clear()",
            "int route() IllegalStateException UnsupportedOperationException",
            "int column(int,int) IndexOutOfBoundsException",
            "int net(int,int) IllegalArgumentException",
            "int mask(int,int) IllegalStateException IndexOutOfBoundsException",
            "int damage(int,int,int) IllegalArgumentException IllegalStateException"
                    + " IndexOutOfBoundsException",
            "boolean joined(int,int,int,int) IllegalStateException IndexOutOfBoundsException",
            "int faults(boolean) IllegalStateException",
            "double time(int,double) IllegalArgumentException",
            "double delay(int) IllegalArgumentException IllegalStateException",
            "double arrival(int) IllegalArgumentException IllegalStateException"
                    + " ArithmeticException",
            "int simulate(int) ArithmeticException",
            "int count(int) IllegalArgumentException");

    public static void main(String[] args) {
        Checks checks = new Checks();
        int modifiers = ChipForge.class.getModifiers();
        checks.due("ChipForge is public", true, () -> Modifier.isPublic(modifiers));
        checks.due("ChipForge is final", true, () -> Modifier.isFinal(modifiers));
        checks.due("the face", new TreeSet<>(FACE), FaceTest::visibleFace);
        checks.due("fields that can be seen", List.of(), FaceTest::visibleFields);
        checks.due("static fields that can be set", List.of(), FaceTest::staticState);
        checks.due("private methods with a public name", List.of(), FaceTest::hiddenNamesakes);
        checks.end();
    }

    private static Set<String> visibleFace() {
        Set<String> face = new TreeSet<>();
        for (Constructor<?> made : ChipForge.class.getDeclaredConstructors()) {
            face.add("ChipForge" + tail(made));
        }
        for (Method method : ChipForge.class.getDeclaredMethods()) {
            if (!Modifier.isPrivate(method.getModifiers()) && !method.isSynthetic()) {
                face.add(method.getReturnType() + " " + method.getName() + tail(method));
            }
        }
        return face;
    }

    private static String tail(Executable member) {
        StringBuilder text = new StringBuilder("(");
        for (Class<?> type : member.getParameterTypes()) {
            text.append(text.length() > 1 ? "," : "").append(type.getSimpleName());
        }
        text.append(")");
        for (Class<?> thrown : member.getExceptionTypes()) {
            text.append(" ").append(thrown.getSimpleName());
        }
        return text.toString();
    }

    private static List<String> visibleFields() {
        List<String> seen = new ArrayList<>();
        for (Field field : ChipForge.class.getDeclaredFields()) {
            if (!Modifier.isPrivate(field.getModifiers())) {
                seen.add(field.getName());
            }
        }
        return seen;
    }

    private static List<String> staticState() {
        List<String> seen = new ArrayList<>();
        for (Class<?> type : allClasses()) {
            for (Field field : type.getDeclaredFields()) {
                int modifiers = field.getModifiers();
                if (Modifier.isStatic(modifiers) && !Modifier.isFinal(modifiers)) {
                    seen.add(type.getSimpleName() + "." + field.getName());
                }
            }
        }
        return seen;
    }

    private static List<String> hiddenNamesakes() {
        Set<String> names = new TreeSet<>();
        for (Method method : ChipForge.class.getMethods()) {
            names.add(method.getName());
        }
        List<String> seen = new ArrayList<>();
        for (Class<?> type : allClasses()) {
            for (Method method : type.getDeclaredMethods()) {
                boolean hidden = !Modifier.isPublic(method.getModifiers());
                if (hidden && names.contains(method.getName())) {
                    seen.add(type.getSimpleName() + "." + method.getName());
                }
            }
        }
        return seen;
    }

    private static List<Class<?>> allClasses() {
        List<Class<?>> all = new ArrayList<>(Arrays.asList(ChipForge.class.getDeclaredClasses()));
        all.add(ChipForge.class);
        return all;
    }
}
