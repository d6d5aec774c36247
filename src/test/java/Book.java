import java.util.ArrayList;
import java.util.LinkedHashMap;
import java.util.List;
import java.util.Map;

/** The document by its sections, and the runs that test its sentences. */
final class Book {
    private final Map<String, String> sections = new LinkedHashMap<>();
    private final List<Run> runs = new ArrayList<>();

    Book(List<String> lines) {
        String section = "";
        for (String line : lines) {
            if (line.startsWith("## ")) {
                section = line.substring(3).trim();
            } else if (!line.startsWith("```")) {
                sections.merge(section, line.trim() + " ", String::concat);
            }
        }
        sections.replaceAll((title, text) -> withoutSignature(text.replaceAll("\\s+", " ").trim()));
    }

    /** A promise begins with the signature, which the section of the public face has too. */
    private static String withoutSignature(String text) {
        int end = text.startsWith("`") ? text.indexOf("`:") : -1;
        return end < 0 ? text : text.substring(end + 2);
    }

    Run run(String section, String sentence, String what) {
        Run run = new Run(section, sentence, what);
        runs.add(run);
        return run;
    }

    void checkRuns(Checks checks) {
        for (Run run : runs) {
            run.check(checks);
        }
    }

    /** Every sentence that a run names stands in its section. */
    void checkSentences(Checks checks) {
        for (Run run : runs) {
            boolean stands = sections.getOrDefault(run.section, "").contains(run.sentence);
            checks.holds("the document says in '" + run.section + "': " + run.sentence, true, () -> stands);
        }
    }

    /** Nothing that is said in a section goes without a run. */
    void checkNothingLeftOut(Checks checks, String section) {
        String whole = sections.getOrDefault(section, "no such section");
        char[] text = whole.toCharArray();
        for (Run run : runs) {
            int at = run.section.equals(section) ? whole.indexOf(run.sentence) : -1;
            for (int i = 0; at >= 0 && i < run.sentence.length(); i++) {
                text[at + i] = ' ';
            }
        }
        String left = new String(text).replaceAll("[^A-Za-z0-9]+", " ").trim();
        checks.same("what no run tests of '" + section + "'", "nothing", left, left.isEmpty());
    }

    List<String> promises() {
        List<String> promises = new ArrayList<>(sections.keySet());
        promises.removeIf(section -> !section.startsWith("Promise "));
        return promises;
    }
}
