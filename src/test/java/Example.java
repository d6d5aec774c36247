import java.util.ArrayList;
import java.util.List;
import java.util.Set;
import java.util.TreeSet;
import java.util.regex.Matcher;
import java.util.regex.Pattern;

/**
 * A piece of Java in README.md: each line makes a house or one call, and the comment behind it begins
 * with the answer. A line that is neither is told, so that nothing in README.md goes unchecked.
 */
final class Example {
    private static final String NEW_HOUSE = "LockHouse house = new LockHouse();";
    private static final Pattern CALL =
            Pattern.compile("(?:int (\\w+) = )?(house\\.(\\w+)\\([^;]*\\));(?:\\s*// (.*))?");
    private static final Pattern ANSWER =
            Pattern.compile("(-?\\d+|true|false|[A-Z][A-Z_]+|throws \\w+)(?:: .*)?");
    private static final Set<String> WITHOUT_ANSWER = Set.of("gate", "zoneOf", "tear", "loseBattery", "visit");

    private final int firstLine;
    private final List<String> lines;
    private final List<String> asked = new ArrayList<>();
    private final List<String> due = new ArrayList<>();
    private final Set<String> methods = new TreeSet<>();
    private final StringBuilder asking = new StringBuilder();

    /** The lines as they stand in README.md, the first of which has that number there. */
    Example(int firstLine, List<String> lines, Checks checks) {
        this.firstLine = firstLine;
        this.lines = lines;
        for (int i = 0; i < lines.size(); i++) {
            read("README.md line " + (firstLine + i) + ": " + lines.get(i), lines.get(i), checks);
        }
    }

    private void read(String place, String line, Checks checks) {
        if (line.equals(NEW_HOUSE)) {
            asking.append(NEW_HOUSE).append('\n');
            return;
        }
        Matcher call = CALL.matcher(line);
        if (!call.matches()) {
            checks.tell(place + " is no call that can be checked");
            return;
        }
        boolean silent = WITHOUT_ANSWER.contains(call.group(3));
        Matcher answer = ANSWER.matcher(call.group(4) == null ? "" : call.group(4));
        boolean said = answer.matches();
        if (!said && !silent) {
            checks.tell(place + " says no answer");
        }
        asked.add(place);
        due.add(said ? answer.group(1) : Calls.DONE);
        methods.add(call.group(3));
        asking.append(asking(call.group(1), call.group(2), silent));
    }

    private static String asking(String name, String call, boolean silent) {
        if (name != null) {
            // no try here: the name must be known to the lines below
            return "int " + name + " = " + call + "; answers.add(String.valueOf(" + name + "));\n";
        }
        String made = silent ? call + "; answers.add(\"" + Calls.DONE + "\");" : "answers.add(String.valueOf(" + call + "));";
        return "try { " + made + " } catch (RuntimeException e) { answers.add(\"throws \" + e.getClass().getSimpleName()); }\n";
    }

    String place() {
        return "README.md line " + firstLine;
    }

    /** A class with the lines of README.md, nothing changed. */
    String asShown(String name) {
        return "final class " + name + " {\n    static void use() {\n" + String.join("\n", lines) + "\n    }\n}\n";
    }

    /** A class with the same calls, which tells the answers. */
    String telling(String name) {
        return "public final class " + name + " {\n    public static void use(java.util.List<String> answers) {\n" + asking
                + "    }\n}\n";
    }

    List<String> asked() {
        return asked;
    }

    List<String> due() {
        return due;
    }

    Set<String> methods() {
        return methods;
    }
}
