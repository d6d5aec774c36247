import java.lang.reflect.Constructor;
import java.lang.reflect.Field;
import java.lang.reflect.Method;
import java.lang.reflect.Modifier;
import java.util.ArrayList;
import java.util.Arrays;
import java.util.List;
import java.util.TreeSet;
import java.util.stream.Collectors;

/** The class has the document's face, and no other member that is seen from outside. */
public final class FaceTest {
    private static final String INDEX = "IndexOutOfBoundsException";
    private static final String ARGUMENT = "IllegalArgumentException";
    private static final String STATE = "IllegalStateException";
    private static final Checks CHECKS = new Checks();

    private FaceTest() {
    }

    public static void main(String[] args) {
        constants();
        same("methods", List.of(
                "int issue(int, int) " + STATE,
                "int cards() ",
                "int revoke(int) " + INDEX + " " + STATE,
                "int entries() ",
                "void gate(int) " + INDEX,
                "void zoneOf(int, int) " + INDEX + " " + ARGUMENT + " " + STATE,
                "int show(int, int, int) " + INDEX,
                "void tear(int, int) " + INDEX + " " + ARGUMENT,
                "int written(int) " + INDEX,
                "int word(int, int, int) " + INDEX,
                "int carries(int, int) " + INDEX + " " + ARGUMENT,
                "int memory(int, int) " + INDEX,
                "int about(int, int) " + INDEX + " " + ARGUMENT,
                "int run(int, int, boolean) " + INDEX,
                "boolean refuses(int, int) " + INDEX,
                "int reach(int) " + INDEX,
                "void loseBattery(int) " + INDEX,
                "void visit(int, int, int, int) " + INDEX,
                "int spread(int) " + ARGUMENT), seenMethods());
        same("fields", List.of("NONE", "ADMITTED", "REVOKED", "ENDED", "NO_RIGHT"), seenFields());
        Constructor<?>[] constructors = LockHouse.class.getDeclaredConstructors();
        CHECKS.due("constructors", 1, () -> constructors.length);
        CHECKS.due("the constructor's parameters", 0, () -> constructors[0].getParameterCount());
        CHECKS.holds("the constructor is public", true, () -> Modifier.isPublic(constructors[0].getModifiers()));
        CHECKS.holds("the class is final", true, () -> Modifier.isFinal(LockHouse.class.getModifiers()));
        CHECKS.holds("the class is public", true, () -> Modifier.isPublic(LockHouse.class.getModifiers()));
        CHECKS.end();
    }

    private static void constants() {
        CHECKS.due("NONE", -1, () -> LockHouse.NONE);
        CHECKS.due("ADMITTED", 0, () -> LockHouse.ADMITTED);
        CHECKS.due("REVOKED", 1, () -> LockHouse.REVOKED);
        CHECKS.due("ENDED", 2, () -> LockHouse.ENDED);
        CHECKS.due("NO_RIGHT", 3, () -> LockHouse.NO_RIGHT);
    }

    private static List<String> seenMethods() {
        List<String> seen = new ArrayList<>();
        for (Method method : LockHouse.class.getDeclaredMethods()) {
            if (!Modifier.isPrivate(method.getModifiers()) && !method.isSynthetic()) {
                String parameters = names(method.getParameterTypes(), ", ");
                String open = Modifier.isPublic(method.getModifiers()) ? "" : "not public: ";
                seen.add(open + method.getReturnType().getSimpleName() + " " + method.getName() + "(" + parameters + ") "
                        + names(method.getExceptionTypes(), " "));
            }
        }
        return seen;
    }

    private static String names(Class<?>[] types, String between) {
        return Arrays.stream(types).map(Class::getSimpleName).collect(Collectors.joining(between));
    }

    private static List<String> seenFields() {
        List<String> seen = new ArrayList<>();
        for (Field field : LockHouse.class.getDeclaredFields()) {
            int modifiers = field.getModifiers();
            if (!Modifier.isPrivate(modifiers) && !field.isSynthetic()) {
                boolean constant = Modifier.isPublic(modifiers) && Modifier.isStatic(modifiers)
                        && Modifier.isFinal(modifiers) && field.getType() == int.class;
                seen.add((constant ? "" : "no public constant: ") + field.getName());
            }
        }
        return seen;
    }

    private static void same(String what, List<String> want, List<String> got) {
        TreeSet<String> missing = new TreeSet<>(want);
        missing.removeAll(got);
        TreeSet<String> beyond = new TreeSet<>(got);
        beyond.removeAll(want);
        CHECKS.due(what + " missing " + missing, 0, missing::size);
        CHECKS.due(what + " beyond the face " + beyond, 0, beyond::size);
    }
}
