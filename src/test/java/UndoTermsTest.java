import java.util.function.Consumer;

/** One test for each sentence of "Undo" and "Exceptions" in the document's "Terms". */
public final class UndoTermsTest extends ChamberTests {
    public static void main(String[] args) {
        new UndoTermsTest().runAll();
    }

    /** Three members, of whom one follows, a rule, the quota 5, and one saved state. */
    private static PivotChamber ready() {
        return madeBy("add 4;add 3;add 2;follow 2 1;rule 0 2;quota 5;");
    }

    /** The call saves one state, and undo brings back what was before it. */
    private void isSaved(String name, Consumer<PivotChamber> call) {
        PivotChamber x = ready();
        call.accept(x);
        check.same("undo() of " + name, x.undo(), 1);
        alike("undone: " + name, x, ready());
    }

    @Says(in = "Terms", value = "Every method that is marked \"undoable\" saves the whole state")
    void eachUndoableCallIsUndoneByOne() {
        isSaved("add", x -> x.add(1));
        isSaved("setWeight", x -> x.setWeight(0, 9));
        isSaved("setQuota", x -> x.setQuota(9));
        isSaved("follow", x -> x.follow(0, 1));
        isSaved("leave", x -> x.leave(2));
        isSaved("addRule", x -> x.addRule(1, 7));
        isSaved("dropRule", x -> x.dropRule(0));
        PivotChamber run = ready();
        write(run, "add 1;weight 0 9;quota 9;leave 2;follow 0 1;rule 1 7;drop 0;");
        check.same("runCommands()", run.runCommands(), 7);
        check.same("undo() of runCommands", run.undo(), 1);
        run.clearCommands();
        alike("undone: runCommands", run, ready());
    }

    @Says(in = "Terms", value = "the whole state but the command text")
    void theTextIsNoPartOfASavedState() {
        PivotChamber x = new PivotChamber();
        write(x, "add 5;");
        x.setQuota(2);
        x.clearCommands();
        x.undo();
        check.same("length of a text that was emptied since", x.whole(11), 0);
        x.setQuota(2);
        write(x, "quota 7; ");
        x.undo();
        check.same("length of a text that was written since", x.whole(11), 9);
        check.same("it can be run", x.runCommands(), 1);
        check.same("quota", x.whole(2), 7);
        x.undo();
        check.same("quota when the run is undone", x.whole(2), 1);
        check.same("the text when its run is undone", x.whole(11), 9);
        check.same("it can be run again", x.runCommands(), 1);
        check.same("quota", x.whole(2), 7);
    }

    @Says(in = "Terms", value = "when it ends normally")
    void aRefusedCallSavesNothing() {
        PivotChamber x = ready();
        check.refuses("add", x, ARGUMENT, () -> x.add(51));
        check.refuses("setWeight", x, PLACE, () -> x.setWeight(3, 1));
        check.refuses("setWeight", x, ARGUMENT, () -> x.setWeight(0, 51));
        check.refuses("setQuota", x, ARGUMENT, () -> x.setQuota(0));
        check.refuses("follow", x, STATE, () -> x.follow(2, 0));
        check.refuses("follow", x, ARGUMENT, () -> x.follow(1, 1));
        check.refuses("follow", x, PLACE, () -> x.follow(0, 3));
        check.refuses("leave", x, STATE, () -> x.leave(0));
        check.refuses("leave", x, PLACE, () -> x.leave(3));
        check.refuses("addRule", x, ARGUMENT, () -> x.addRule(3, 1));
        check.refuses("dropRule", x, PLACE, () -> x.dropRule(1));
        check.same("a text with a fault", runOf(x, "x"), -10);
        savedStates(x, 1);
        PivotChamber full = madeBy("add 1;".repeat(8) + "rule 0 1;".repeat(4));
        check.refuses("add", full, STATE, () -> full.add(1));
        check.refuses("addRule", full, STATE, () -> full.addRule(0, 1));
        savedStates(full, 1);
    }

    @Says(in = "Terms", value = "also if it changes nothing")
    void aCallThatChangesNothingIsSavedToo() {
        isSaved("setWeight", x -> x.setWeight(0, 4));
        isSaved("setQuota", x -> x.setQuota(5));
        isSaved("runCommands of an empty text", PivotChamber::runCommands);
        PivotChamber x = new PivotChamber();
        x.setQuota(1);
        x.setQuota(1);
        check.same("a run that stops at once", runOf(x, "quota 0;"), 0);
        check.same("a run of spaces", runOf(x, " "), 0);
        savedStates(x, 4);
    }

    @Says(in = "Terms", value = "The saved state is the one from before the call.")
    void eachUndoBringsBackWhatWasBeforeItsCall() {
        PivotChamber x = new PivotChamber();
        x.add(5);
        x.setQuota(7);
        x.setWeight(0, 8);
        check.same("undo()", x.undo(), 2);
        check.same("weight before setWeight", x.member(0, 0), 5);
        check.same("quota before setWeight", x.whole(2), 7);
        check.same("undo()", x.undo(), 1);
        check.same("quota before setQuota", x.whole(2), 1);
        check.same("members before setQuota", x.whole(0), 1);
        check.same("undo()", x.undo(), 0);
        check.same("members before add", x.whole(0), 0);
    }

    @Says(in = "Terms", value = "The stack keeps the latest 4 saved states and drops older ones.")
    void fourStatesAndNoMore() {
        for (int calls = 0; calls <= 13; calls++) {
            PivotChamber x = new PivotChamber();
            for (int i = 1; i <= calls; i++) {
                x.setQuota(i + 1);
            }
            int kept = Math.min(calls, 4);
            savedStates(x, kept);
            check.same("quota at the end of the stack, behind " + calls, x.whole(2), calls - kept + 1);
        }
    }

    @Says(in = "Terms", value = "keeps the latest 4 saved states")
    void theStackGoesRoundAgainAndAgain() {
        PivotChamber x = new PivotChamber();
        int[] quotas = new int[600];
        int top = 0;
        quotas[0] = 1;
        for (int i = 1; i <= 120; i++) {
            top++;
            quotas[top] = i + 1;
            x.setQuota(i + 1);
            if (i % 3 == 0) {
                top--;
                check.holds("undo() after " + i, x.undo() >= 2);
                check.same("quota after " + i, x.whole(2), quotas[top]);
            }
        }
        check.same("undo()", x.undo(), 2);
        check.same("undo()", x.undo(), 1);
        check.same("undo()", x.undo(), 0);
        check.same("quota at the end of the stack", x.whole(2), quotas[top - 3]);
        check.refuses("undo() more", x, STATE, x::undo);
    }

    /** Eight members, of whom one follows, four rules, one saved state, and a text. */
    private static PivotChamber full() {
        PivotChamber x = madeBy("add 1;".repeat(8) + "follow 2 1;rule 0 1;rule 0 2;rule 1 3;rule 2 9;quota 3;");
        write(x, "drop 0;leave 2; quota 5;");
        return x;
    }

    @Says(in = "Terms", value = "A call that throws an exception changes nothing.")
    void nothingChangesByARefusedCall() {
        PivotChamber x = full();
        check.refuses("add", x, STATE, () -> x.add(1));
        check.refuses("add", x, ARGUMENT, () -> x.add(-1));
        check.refuses("setWeight", x, PLACE, () -> x.setWeight(8, 9));
        check.refuses("setWeight", x, ARGUMENT, () -> x.setWeight(7, 51));
        check.refuses("setQuota", x, ARGUMENT, () -> x.setQuota(401));
        check.refuses("follow", x, PLACE, () -> x.follow(8, 0));
        check.refuses("follow", x, ARGUMENT, () -> x.follow(7, 7));
        check.refuses("follow", x, STATE, () -> x.follow(1, 0));
        check.refuses("leave", x, PLACE, () -> x.leave(-1));
        check.refuses("leave", x, STATE, () -> x.leave(7));
        check.refuses("addRule", x, ARGUMENT, () -> x.addRule(2, 256));
        check.refuses("addRule", x, STATE, () -> x.addRule(2, 255));
        check.refuses("dropRule", x, PLACE, () -> x.dropRule(4));
        check.refuses("type", x, ARGUMENT, () -> x.type(128));
        refusedQuestions(x);
        alike("behind refused calls", x, full());
    }

    private void refusedQuestions(PivotChamber x) {
        check.refuses("member", x, PLACE, () -> x.member(8, 0));
        check.refuses("member", x, ARGUMENT, () -> x.member(0, 8));
        check.refuses("rule", x, PLACE, () -> x.rule(4, 0));
        check.refuses("rule", x, ARGUMENT, () -> x.rule(0, 3));
        check.refuses("whole", x, ARGUMENT, () -> x.whole(12));
        check.refuses("wins", x, ARGUMENT, () -> x.wins(256));
        check.refuses("least", x, ARGUMENT, () -> x.least(-1));
        check.refuses("share", x, PLACE, () -> x.share(8));
        check.refuses("part", x, PLACE, () -> x.part(8));
        check.refuses("reason", x, ARGUMENT, () -> x.reason(-1));
        check.refuses("pivot", x, ARGUMENT, () -> x.pivot(12345678));
        check.refuses("swingsWith", x, PLACE, () -> x.swingsWith(8, 1));
        check.refuses("swingsWith", x, ARGUMENT, () -> x.swingsWith(0, 0));
        check.refuses("bestQuota", x, PLACE, () -> x.bestQuota(8));
        check.refuses("dummiesWith", x, ARGUMENT, () -> x.dummiesWith(401));
        check.refuses("leastWeight", x, PLACE, () -> x.leastWeight(8));
        check.refuses("unionGain", x, PLACE, () -> x.unionGain(0, 8));
        check.refuses("unionGain", x, ARGUMENT, () -> x.unionGain(0, 2));
        check.refuses("compare", x, PLACE, () -> x.compare(0, 8));
        check.refuses("compare", x, ARGUMENT, () -> x.compare(2, 0));
    }

    @Says(in = "Terms", value = "A call that throws an exception changes nothing.")
    void nothingChangesByATextThatIsFullOrAStackThatIsEmpty() {
        PivotChamber x = new PivotChamber();
        write(x, "add 1;".repeat(25));
        check.refuses("type", x, STATE, () -> x.type('x'));
        check.refuses("undo", x, STATE, x::undo);
        check.same("the text as it was", x.runCommands(), 8);
        check.same("undo()", x.undo(), 0);
        check.refuses("undo", x, STATE, x::undo);
        check.same("the stack as it was", runOf(x, "add 3;"), 1);
        check.same("undo()", x.undo(), 0);
        check.same("members", x.whole(0), 0);
    }

    @Says(in = "Terms", value = "If several exceptions of a method apply, the one that is listed first is thrown.")
    void theExceptionThatIsListedFirst() {
        PivotChamber x = full();
        check.refuses("add: argument, state", x, ARGUMENT, () -> x.add(51));
        check.refuses("setWeight: place, argument", x, PLACE, () -> x.setWeight(8, 51));
        check.refuses("follow: place, argument", x, PLACE, () -> x.follow(8, 8));
        check.refuses("follow: place, state", x, PLACE, () -> x.follow(2, 8));
        check.refuses("follow: place, state", x, PLACE, () -> x.follow(-1, 2));
        check.refuses("follow: argument, state", x, ARGUMENT, () -> x.follow(2, 2));
        check.refuses("follow: argument, state", x, ARGUMENT, () -> x.follow(1, 1));
        check.refuses("leave: place", x, PLACE, () -> x.leave(8));
        check.refuses("addRule: argument, state", x, ARGUMENT, () -> x.addRule(3, 1));
        check.refuses("addRule: argument, state", x, ARGUMENT, () -> x.addRule(0, 0));
        check.refuses("member: place, argument", x, PLACE, () -> x.member(8, 8));
        check.refuses("rule: place, argument", x, PLACE, () -> x.rule(4, 3));
        check.refuses("swingsWith: place, argument", x, PLACE, () -> x.swingsWith(8, 0));
        check.refuses("unionGain: place, argument", x, PLACE, () -> x.unionGain(8, 8));
        check.refuses("unionGain: place, argument", x, PLACE, () -> x.unionGain(2, 8));
        check.refuses("compare: place, argument", x, PLACE, () -> x.compare(8, 8));
        check.refuses("compare: place, argument", x, PLACE, () -> x.compare(-1, 2));
        write(x, " ".repeat(150 - x.whole(11)));
        check.refuses("type: argument, state", x, ARGUMENT, () -> x.type(128));
    }

    @Says(in = "Terms", value = "NONE is returned only if no exception applies.")
    void anExceptionComesBeforeNone() {
        PivotChamber x = chamber(400, 0, 0);
        check.refuses("least", x, ARGUMENT, () -> x.least(-1));
        check.refuses("pivot", x, ARGUMENT, () -> x.pivot(11));
        check.refuses("pivot", x, ARGUMENT, () -> x.pivot(0));
        check.refuses("bestQuota", x, PLACE, () -> x.bestQuota(2));
        check.refuses("leastWeight", x, PLACE, () -> x.leastWeight(2));
        check.refuses("member", x, PLACE, () -> x.member(2, 1));
        PivotChamber none = new PivotChamber();
        check.refuses("pivot of nobody", none, ARGUMENT, () -> none.pivot(1));
        check.refuses("bestQuota of nobody", none, PLACE, () -> none.bestQuota(0));
        check.refuses("leastWeight of nobody", none, PLACE, () -> none.leastWeight(0));
    }
}
