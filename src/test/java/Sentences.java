import java.io.IOException;
import java.nio.file.Files;
import java.nio.file.Path;
import java.util.ArrayList;
import java.util.List;
import java.util.Map;
import java.util.TreeMap;
import java.util.regex.Pattern;

/**
 * Holds sentences of the document to their tests: each test is told with the section and the words that it tests,
 * which must stand there, and no part of a promise that names a boundary may be without one.
 */
final class Sentences {
    private static final Path DOCUMENT = Path.of("../shared/DOC.md");
    private static final int PROMISES = 27;
    private static final Pattern NAMES_A_BOUNDARY =
            Pattern.compile("NONE|No CORNER|-\\d|nothing happens|none comes|without|highest|empty|always|\\d to \\d");

    private final Map<String, String> sections = new TreeMap<>();
    private final Map<String, List<String>> held = new TreeMap<>();

    Sentences() throws IOException {
        if (!Files.isReadable(DOCUMENT)) {
            System.out.println("no " + DOCUMENT + " here: the tests are run without looking up their words");
            return;
        }
        for (String section : Files.readString(DOCUMENT).split("\n## ")) {
            int line = section.indexOf('\n');
            String title = line < 0 ? section : section.substring(0, line);
            sections.put(title.replaceAll(":.*", ""), line < 0 ? "" : section.substring(line));
        }
    }

    /** A sentence's test: where the document has it, its words there, and what must hold. */
    void hold(String where, String words, Runnable test) {
        Asker.due(where + " has not the words <" + words + ">:", has(where, words) ? 0 : 1, 0);
        held.computeIfAbsent(where, any -> new ArrayList<>()).add(words);
        int before = Asker.wrongSoFar();
        test.run();
        if (Asker.wrongSoFar() > before) {
            System.out.println("so this does not hold, " + where + ": " + words);
        }
    }

    private boolean has(String where, String words) {
        return sections.isEmpty() || sections.getOrDefault(where, "").contains(words);
    }

    /** Every part of a promise that names a boundary has been held to a test. */
    void dueWhole() {
        for (int promise = 1; promise <= PROMISES; promise++) {
            String where = "Promise " + promise;
            for (String part : sections.getOrDefault(where, "").split(";")) {
                if (NAMES_A_BOUNDARY.matcher(part).find()) {
                    Asker.due(where + " has no test of <" + part.trim() + ">:", isHeld(where, part) ? 0 : 1, 0);
                }
            }
        }
    }

    private boolean isHeld(String where, String part) {
        for (String words : held.getOrDefault(where, List.of())) {
            if (part.contains(words) || words.contains(part.trim())) {
                return true;
            }
        }
        return false;
    }
}
