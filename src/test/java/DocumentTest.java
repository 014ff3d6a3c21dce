import java.io.IOException;
import java.lang.reflect.Method;
import java.nio.file.Files;
import java.nio.file.Path;
import java.util.ArrayList;
import java.util.HashMap;
import java.util.List;
import java.util.Map;

/**
 * Holds the tests against the document: the sentence that each bears stands there, in the part it names or in the Terms;
 * and each sentence that names what is due, or a bound, has a test.
 */
public final class DocumentTest {
    private static final Path DOCUMENT = Path.of("../shared/DOC.md");
    private static final Class<?>[] TESTS = {TermsTest.class, SchoolTest.class, RoundsTest.class, SeatsTest.class,
        RecordsTest.class, SittingTest.class, IsTrueTest.class};

    private DocumentTest() { }

    public static void main(String[] args) throws IOException {
        if (!Files.exists(DOCUMENT)) {
            System.out.println("no document at " + DOCUMENT.toAbsolutePath() + ": nothing is held against it");
            return;
        }
        Map<String, String> parts = partsOf(Files.readAllLines(DOCUMENT));
        Map<String, List<String>> borne = new HashMap<>();
        for (Class<?> tests : TESTS) {
            for (Method test : Suite.testsOf(tests)) {
                note(test, parts, borne);
            }
        }
        for (String part : parts.keySet()) {
            for (String sentence : sentencesOf(part, parts.get(part))) {
                Due.isSo(part + ", '" + sentence + "', has a test",
                        borne.getOrDefault(part, List.of()).stream().anyMatch(sentence::contains));
            }
        }
        Due.is("promises", parts.keySet().stream().filter(part -> part.startsWith("Promise ")).count(), 36);
        Due.end();
    }

    /** Looks the test's sentence up, and notes it for the part where it stands. */
    private static void note(Method test, Map<String, String> parts, Map<String, List<String>> borne) {
        String text = Suite.says(test).text();
        String own = "Promise " + Suite.says(test).promise();
        boolean found = false;
        for (String part : new String[] {own, "Terms", "What it is"}) {
            if (parts.getOrDefault(part, "").contains(text)) {
                borne.computeIfAbsent(part, p -> new ArrayList<>()).add(text);
                found = true;
            }
        }
        Due.isSo(test.getName() + ": '" + text + "' stands in " + own + " or the Terms", found);
    }

    /** The document's parts by their titles, those of promises by their numbers alone. */
    private static Map<String, String> partsOf(List<String> lines) {
        Map<String, String> parts = new HashMap<>();
        String part = "";
        for (String line : lines) {
            if (line.startsWith("## ")) {
                part = line.substring(3).replaceFirst(":.*", "");
            } else {
                parts.merge(part, line + "\n", String::concat);
            }
        }
        return parts;
    }

    private static List<String> sentencesOf(String part, String text) {
        List<String> sentences = new ArrayList<>();
        for (String line : text.split("\n")) {
            if (part.equals("Terms")) {
                // A paragraph begins with a word or three that tell what it is about.
                for (String sentence : line.split("(?<=\\.) ")) {
                    if (sentence.split(" ").length > 3) {
                        sentences.add(sentence);
                    }
                }
            } else if (part.startsWith("Promise ") && namesWhatIsDue(line)) {
                sentences.add(line);
            }
        }
        return sentences;
    }

    /** Not so a parameter's line that tells no more than its name. */
    private static boolean namesWhatIsDue(String line) {
        return !line.isBlank() && (!line.startsWith("- ") || line.matches(".*([0-9']|whether).*"));
    }
}
