import java.io.IOException;
import java.lang.reflect.Method;
import java.nio.file.Files;
import java.nio.file.Path;
import java.util.ArrayList;
import java.util.LinkedHashMap;
import java.util.List;
import java.util.Map;

/**
 * Each test of a sentence quotes the document as it is, and each sentence of "Terms" and of the promises is quoted by
 * a test.
 */
public final class CoverageTest {
    private static final Class<?>[] TESTS = {TermsTest.class, TextTermsTest.class, UndoTermsTest.class,
        MembersTest.class, ValuesTest.class, QuestionsTest.class, CommandsTest.class};

    private final Check check = new Check();
    /** By what a section is called: its lines. */
    private final Map<String, List<String>> sections = new LinkedHashMap<>();

    public static void main(String[] args) throws IOException {
        CoverageTest test = new CoverageTest();
        test.check.topic("document");
        test.read(Path.of("..", "shared", "DOC.md"));
        test.quotesStandInTheDocument();
        test.sentencesAreQuoted();
        test.check.end("CoverageTest");
    }

    private void read(Path document) throws IOException {
        List<String> lines = new ArrayList<>();
        for (String line : Files.readAllLines(document)) {
            if (line.startsWith("## ")) {
                lines = new ArrayList<>();
                sections.put(line.substring(3).split(":")[0], lines);
            } else if (!line.isBlank()) {
                lines.add(line.strip());
            }
        }
        for (int promise = 1; promise <= 28; promise++) {
            check.holds("there is the promise " + promise, sections.containsKey("Promise " + promise));
        }
    }

    private void quotesStandInTheDocument() {
        for (Class<?> tests : TESTS) {
            for (Method test : ChamberTests.testsOf(tests)) {
                Says says = test.getAnnotation(Says.class);
                String section = String.join("\n", sections.getOrDefault(says.in(), List.of()));
                check.holds(test.getName() + " quotes what stands in " + says.in(), section.contains(says.value()));
            }
        }
    }

    private void sentencesAreQuoted() {
        for (Map.Entry<String, List<String>> section : sections.entrySet()) {
            if (section.getKey().equals("Terms") || section.getKey().startsWith("Promise ")) {
                for (String line : section.getValue()) {
                    lineIsQuoted(section.getKey(), line);
                }
            }
        }
    }

    private void lineIsQuoted(String section, String line) {
        boolean isHeading = line.equals(line.toUpperCase());
        if (isHeading || line.startsWith("Ahead of the calls")) {
            return;
        }
        for (String sentence : line.split("(?<=[.;]) ")) {
            check.holds(section + " has a test of: " + sentence, isQuoted(section, sentence));
        }
    }

    private static boolean isQuoted(String section, String sentence) {
        for (Class<?> tests : TESTS) {
            for (Method test : ChamberTests.testsOf(tests)) {
                Says says = test.getAnnotation(Says.class);
                boolean meets = says.value().contains(sentence) || sentence.contains(says.value());
                if (says.in().equals(section) && meets) {
                    return true;
                }
            }
        }
        return false;
    }
}
