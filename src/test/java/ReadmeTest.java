import java.io.IOException;
import java.lang.reflect.Field;
import java.lang.reflect.InvocationTargetException;
import java.lang.reflect.Method;
import java.lang.reflect.Modifier;
import java.nio.file.Files;
import java.nio.file.Path;
import java.util.ArrayList;
import java.util.List;
import java.util.Map;
import java.util.Set;
import java.util.TreeMap;
import java.util.TreeSet;
import java.util.stream.Stream;

/** What README.md shows of the use of the class compiles with it and answers as README.md says. */
public final class ReadmeTest {
    private static final Checks CHECKS = new Checks();

    private ReadmeTest() {
    }

    public static void main(String[] args) throws IOException, ReflectiveOperationException {
        List<String> lines = Files.readAllLines(Path.of("README.md"));
        List<Example> examples = examples(lines);
        Map<String, String> constants = constants();
        CHECKS.holds("README.md shows the use of the class", true, () -> !examples.isEmpty());
        try (Compiled compiled = new Compiled()) {
            for (int i = 0; i < examples.size(); i++) {
                check(examples.get(i), i, compiled, constants);
            }
        }
        showsAll(examples, constants.keySet());
        same("tests in README.md's table", testsInTable(lines), testsOfProject());
        CHECKS.end();
    }

    private static List<Example> examples(List<String> lines) {
        List<Example> examples = new ArrayList<>();
        int opened = -1;
        for (int i = 0; i < lines.size(); i++) {
            if (lines.get(i).equals("```java")) {
                opened = i;
            } else if (lines.get(i).equals("```") && opened >= 0) {
                examples.add(new Example(opened + 2, lines.subList(opened + 1, i), CHECKS));
                opened = -1;
            }
        }
        if (opened >= 0) {
            CHECKS.tell("README.md line " + (opened + 1) + ": this Java has no end");
        }
        return examples;
    }

    private static void check(Example example, int number, Compiled compiled, Map<String, String> constants)
            throws IOException, ReflectiveOperationException {
        String shown = compiled.compile("Shown" + number, example.asShown("Shown" + number));
        CHECKS.same(example.place() + " javac", "no error", shown, shown.isEmpty());
        String telling = compiled.compile("Telling" + number, example.telling("Telling" + number));
        CHECKS.same(example.place() + " with its answers told, javac", "no error", telling, telling.isEmpty());
        if (!telling.isEmpty()) {
            return;
        }
        List<String> answers = new ArrayList<>();
        try {
            compiled.use("Telling" + number, answers);
        } catch (InvocationTargetException e) {
            answers.add("throws " + e.getCause().getClass().getSimpleName());
        }
        for (int i = 0; i < example.asked().size(); i++) {
            String due = constants.getOrDefault(example.due().get(i), example.due().get(i));
            String got = i < answers.size() ? answers.get(i) : "nothing";
            CHECKS.same(example.asked().get(i), due, got, due.equals(got));
        }
    }

    private static Map<String, String> constants() throws IllegalAccessException {
        Map<String, String> constants = new TreeMap<>();
        for (Field field : LockHouse.class.getFields()) {
            constants.put(field.getName(), String.valueOf(field.get(null)));
        }
        return constants;
    }

    private static void showsAll(List<Example> examples, Set<String> constants) {
        Set<String> methods = new TreeSet<>();
        Set<String> answered = new TreeSet<>();
        for (Example example : examples) {
            methods.addAll(example.methods());
            answered.addAll(example.due());
        }
        answered.retainAll(constants);
        Set<String> face = new TreeSet<>();
        for (Method method : LockHouse.class.getDeclaredMethods()) {
            if (Modifier.isPublic(method.getModifiers())) {
                face.add(method.getName());
            }
        }
        same("calls that README.md shows", methods, face);
        same("constants that README.md shows", answered, constants);
    }

    private static Set<String> testsInTable(List<String> lines) {
        Set<String> tests = new TreeSet<>();
        for (String line : lines) {
            if (line.matches("\\| \\w+Test \\|.*")) {
                tests.add(line.substring(2, line.indexOf(" |")));
            }
        }
        return tests;
    }

    private static Set<String> testsOfProject() throws IOException {
        Set<String> tests = new TreeSet<>();
        try (Stream<Path> files = Files.list(Path.of("src/test/java"))) {
            for (Path file : files.toList()) {
                String name = file.getFileName().toString();
                if (name.endsWith("Test.java")) {
                    tests.add(name.substring(0, name.length() - ".java".length()));
                }
            }
        }
        return tests;
    }

    private static void same(String what, Set<String> got, Set<String> due) {
        CHECKS.same(what, due.toString(), got.toString(), got.equals(due));
    }
}
