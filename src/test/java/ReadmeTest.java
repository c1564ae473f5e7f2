import java.io.IOException;
import java.nio.file.Files;
import java.nio.file.Path;
import java.util.ArrayList;
import java.util.List;
import java.util.regex.Pattern;

/** The examples of README.md, call by call: what they answer is what stands behind them there. */
public final class ReadmeTest {
    private final Check check = new Check();
    private final PivotChamber chamber = new PivotChamber();
    /** The lines of the examples that tell an answer, and how many of them have been asked. */
    private final List<String> told = new ArrayList<>();
    private int next;

    public static void main(String[] args) throws IOException {
        ReadmeTest test = new ReadmeTest();
        test.check.topic("README.md");
        test.read(Path.of("README.md"));
        test.examples();
        test.check.end("ReadmeTest");
    }

    private void read(Path page) throws IOException {
        for (String line : Files.readAllLines(page)) {
            if (line.startsWith("    chamber.") && line.contains("// ")) {
                told.add(line.strip());
            }
        }
    }

    private void examples() {
        chamber.add(4);
        chamber.add(3);
        chamber.add(2);
        chamber.setQuota(6);
        asked("wins(0b011)", chamber.wins(0b011));
        asked("member(0, 4)", chamber.member(0, 4));
        asked("part(0)", chamber.part(0));
        asked("undo()", chamber.undo());
        check.same("quota behind undo()", chamber.whole(2), 1);
        asked("follow(2, 1)", chamber.follow(2, 1));
        asked("addRule(1, 0)", chamber.addRule(1, 0));
        asked("reason(0b010)", chamber.reason(0b010));
        asked("compare(0, 1)", chamber.compare(0, 1));
        asked("dummiesWith(9)", chamber.dummiesWith(9));
        asked("unionGain(0, 1)", chamber.unionGain(0, 1));
        ChamberTests.write(chamber, "add 1; quota 7;");
        asked("runCommands()", chamber.runCommands());
        asked("undo()", chamber.undo());
        asked("clearCommands()", chamber.clearCommands());
        check.same("lines that tell an answer", told.size(), next);
    }

    private void asked(String call, Object answer) {
        String line = next < told.size() ? told.get(next) : "";
        next++;
        check.holds(call + " answered " + answer + ", README.md says: " + line,
                line.matches("chamber\\." + Pattern.quote(call) + "; +// " + answer + ":.*"));
    }
}
