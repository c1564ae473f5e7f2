import java.math.BigInteger;
import java.util.ArrayList;
import java.util.List;

/** One test for each sentence of the promises 24 to 28: typing and running texts, undo, digest. */
public final class CommandsTest extends ChamberTests {
    public static void main(String[] args) {
        new CommandsTest().runAll();
    }

    @Says(in = "Promise 24", value = "Appends a byte to the command text.")
    void bytesAreAppendedInTheirOrder() {
        PivotChamber x = new PivotChamber();
        write(x, "quota 12");
        x.type('3');
        x.type(';');
        check.same("runCommands()", x.runCommands(), 1);
        check.same("quota", x.whole(2), 123);
        write(x, "quota 321;");
        check.same("both commands", x.runCommands(), 2);
        check.same("quota", x.whole(2), 321);
    }

    @Says(in = "Promise 24", value = "`value`: 0 to 127")
    void bytesGoFrom0To127() {
        PivotChamber x = new PivotChamber();
        for (int value = 0; value <= 127; value++) {
            check.same("type(" + value + ")", x.type(value), value + 1);
        }
    }

    @Says(in = "Promise 24", value = "Returns the length of the text.")
    void typeAnswers1To150() {
        PivotChamber x = new PivotChamber();
        for (int length = 1; length <= 150; length++) {
            check.same("type()", x.type(' '), length);
        }
        x.clearCommands();
        check.same("type() into an emptied text", x.type(' '), 1);
    }

    @Says(in = "Promise 24", value = "Throws `IllegalArgumentException` if value is out of range")
    void typeRefusesOtherBytes() {
        PivotChamber x = new PivotChamber();
        refusesEach("type(v)", x, ARGUMENT, x::type, LEAST, -128, -1, 128, 129, 255, 256, 288, MOST);
        check.same("length", x.whole(11), 0);
        write(x, " ".repeat(150));
        refusesEach("type(v) into a full text", x, ARGUMENT, x::type, LEAST, -1, 128, MOST);
    }

    @Says(in = "Promise 24", value = "Throws `IllegalStateException` if the text has 150 bytes")
    void typeRefusesA151stByte() {
        PivotChamber x = new PivotChamber();
        write(x, " ".repeat(149));
        check.same("the 150th", x.type(' '), 150);
        refusesEach("type(v)", x, STATE, x::type, 0, 32, 127);
        check.same("length", x.whole(11), 150);
        x.clearCommands();
        check.same("type() into an emptied text", x.type(127), 1);
    }

    @Says(in = "Promise 25", value = "Empties the command text.")
    void nothingIsLeftOfAnEmptiedText() {
        PivotChamber x = new PivotChamber();
        write(x, "add 1;add 2;");
        x.clearCommands();
        check.same("length", x.whole(11), 0);
        check.same("runCommands()", x.runCommands(), 0);
        write(x, "add 3");
        check.same("what stood behind it is gone", x.runCommands(), -15);
        check.same("members", x.whole(0), 0);
    }

    @Says(in = "Promise 25", value = "Returns the length that it had.")
    void clearCommandsAnswers0To150() {
        PivotChamber x = new PivotChamber();
        check.same("of an empty text", x.clearCommands(), 0);
        for (int length : new int[] {1, 6, 149, 150}) {
            write(x, "x".repeat(length));
            check.same("of " + length + " bytes", x.clearCommands(), length);
            check.same("of the emptied text", x.clearCommands(), 0);
        }
        check.refuses("undo() behind it", x, STATE, x::undo);
    }

    @Says(in = "Promise 26", value = "Runs the command text, which stays as it is.")
    void theTextStaysAsItIs() {
        PivotChamber x = new PivotChamber();
        check.same("a run", runOf(x, "add 1; quota 9;"), 2);
        check.same("length", x.whole(11), 15);
        check.same("the run again", x.runCommands(), 2);
        check.same("members", x.whole(0), 2);
        check.same("a run that stops", runOf(x, "add 1;leave 7;add 2;"), 1);
        check.same("length", x.whole(11), 20);
        check.same("the run again", x.runCommands(), 1);
        check.same("a fault", runOf(x, "add 1;!"), -16);
        check.same("length", x.whole(11), 7);
        check.same("the fault again", x.runCommands(), -16);
        check.same("members", x.whole(0), 4);
    }

    @Says(in = "Promise 26", value = "Undoable, if it has no fault.")
    void aRunIsUndoableAFaultIsNot() {
        PivotChamber x = new PivotChamber();
        runOf(x, "add 1;add 2;");
        check.same("undo()", x.undo(), 0);
        check.same("members", x.whole(0), 0);
        runOf(x, "");
        check.same("undo() of an empty run", x.undo(), 0);
        runOf(x, "leave 0;");
        check.same("undo() of a run that stops at once", x.undo(), 0);
        for (String fault : new String[] {"x", "add 1;x", "add 1", ";"}) {
            runOf(x, fault);
            check.refuses("undo() of '" + fault + "'", x, STATE, x::undo);
        }
    }

    @Says(in = "Promise 26", value = "Returns the number of commands that were carried out;")
    void runCommandsAnswersHowManyWereCarriedOut() {
        check.same("none of none", runOf(new PivotChamber(), ""), 0);
        check.same("none of one", runOf(new PivotChamber(), "drop 0;"), 0);
        check.same("one of one", runOf(new PivotChamber(), "add 0;"), 1);
        check.same("one of three", runOf(new PivotChamber(), "add 0;drop 0;add 0;"), 1);
        check.same("three of three", runOf(new PivotChamber(), "add 0;quota 1;add 0;"), 3);
        check.same("eight of twenty-five", runOf(new PivotChamber(), "add 0;".repeat(25)), 8);
        PivotChamber x = madeBy("rule 0 1;");
        check.same("twenty, up to a ninth member", runOf(x, "drop 0;" + "add 1;".repeat(8)
                + "quota 1;".repeat(11) + "add 1;"), 20);
    }

    @Says(in = "Promise 26", value = "-10 minus the fault if it has one.")
    void runCommandsAnswersMinus10ToMinus160() {
        check.same("at the first byte", runOf(new PivotChamber(), "!"), -10);
        check.same("at the second byte", runOf(new PivotChamber(), " !"), -11);
        check.same("at the last byte", runOf(new PivotChamber(), " ".repeat(149) + "!"), -159);
        check.same("behind 150 bytes", runOf(new PivotChamber(), " ".repeat(144) + "add  1"), -160);
    }

    @Says(in = "Promise 27", value = "Restores the latest saved state and removes it from the undo stack.")
    void undoRestoresTheLatestOne() {
        PivotChamber x = madeBy("add 4;add 3;add 2;rule 0 1;rule 1 2;follow 2 0;");
        PivotChamber twin = madeBy("add 4;add 3;add 2;rule 0 1;rule 1 2;follow 2 0;");
        x.dropRule(0);
        x.leave(2);
        x.setWeight(1, 0);
        x.undo();
        check.same("weight of 1", x.member(1, 0), 3);
        check.same("whom 2 follows", x.member(2, 1), NONE);
        x.undo();
        check.same("whom 2 follows", x.member(2, 1), 0);
        check.same("rules", x.whole(3), 1);
        x.undo();
        alike("behind three undo()", x, twin);
    }

    @Says(in = "Promise 27", value = "Returns the number of states that are left on the stack.")
    void undoAnswers3To0() {
        PivotChamber x = four();
        for (int left = 3; left >= 0; left--) {
            check.same("undo()", x.undo(), left);
        }
        x.add(1);
        x.add(1);
        check.same("undo() of the second", x.undo(), 1);
        x.add(1);
        x.add(1);
        check.same("undo() of three", x.undo(), 2);
    }

    @Says(in = "Promise 27", value = "Throws `IllegalStateException` if the stack is empty")
    void undoRefusesAnEmptyStack() {
        PivotChamber x = new PivotChamber();
        check.refuses("undo() of a new object", x, STATE, x::undo);
        x.add(1);
        x.undo();
        check.refuses("undo() when all is undone", x, STATE, x::undo);
        PivotChamber y = eight(1, 1);
        savedStates(y, 4);
        check.same("members, where the older states were dropped", y.whole(0), 5);
        write(y, "add 1;");
        check.refuses("undo() behind type()", y, STATE, y::undo);
        y.clearCommands();
        check.refuses("undo() behind clearCommands()", y, STATE, y::undo);
    }

    /** The digest by the document's words, from the object's own answers. */
    private static List<Long> valuesOf(PivotChamber x, int states) {
        List<Long> values = new ArrayList<>();
        values.add((long) states);
        for (int what = 0; what <= 11; what++) {
            values.add((long) x.whole(what));
        }
        for (int m = 0; m < x.whole(0); m++) {
            for (int what = 0; what <= 7; what++) {
                values.add((long) x.member(m, what));
            }
            values.add((long) Float.floatToIntBits(x.share(m)));
            values.add(Double.doubleToLongBits(x.part(m)));
        }
        for (int r = 0; r < x.whole(3); r++) {
            for (int what = 0; what <= 2; what++) {
                values.add((long) x.rule(r, what));
            }
        }
        for (int i = 0; i < x.whole(6); i++) {
            values.add((long) x.least(i));
        }
        return values;
    }

    private static long hashOf(List<Long> values) {
        BigInteger h = BigInteger.valueOf(43588);
        for (long v : values) {
            h = h.multiply(BigInteger.valueOf(31)).add(BigInteger.valueOf(v));
        }
        return h.longValue();
    }

    private void digests(String name, PivotChamber x, int states) {
        check.same("digest() of " + name, x.digest(), hashOf(valuesOf(x, states)));
    }

    @Says(in = "Promise 28", value = "Returns a hash of the state.")
    void digestByHand() {
        PivotChamber x = four();
        x.follow(3, 1);
        x.addRule(0, 2);
        x.addRule(1, 5);
        x.dropRule(1);
        long third = Float.floatToIntBits(1.0f / 3.0f);
        long part = Double.doubleToLongBits(2.0 / 6.0);
        check.same("digest()", x.digest(), hashOf(List.of(4L,
                4L, 3L, 6L, 1L, 10L, 4L, 3L, 6L, 0L, 0L, 1L, 0L,
                4L, -1L, 0L, 4L, 2L, 2L, 0L, 0L, third, part,
                3L, -1L, 1L, 4L, 2L, 2L, 0L, 0L, third, part,
                2L, -1L, 0L, 2L, 2L, 2L, 0L, 0L, third, part,
                1L, 1L, 0L, 0L, 0L, 0L, 0L, 0L, 0L, 0L,
                0L, 2L, 1L,
                3L, 5L, 6L)));
    }

    @Says(in = "Promise 28", value = "It starts with h = 43588.")
    void digestOfANewObject() {
        check.same("digest()", new PivotChamber().digest(),
                hashOf(List.of(0L, 0L, 0L, 1L, 0L, 0L, 0L, 0L, 0L, 0L, 0L, 0L, 0L)));
    }

    @Says(in = "Promise 28", value = "h becomes 31 * h + v (long arithmetic, overflow wraps).")
    void digestWrapsAround() {
        PivotChamber x = eight(4, 1);
        List<Long> values = valuesOf(x, 4);
        BigInteger h = BigInteger.valueOf(43588);
        for (int i = 0; i < values.size() && h.bitLength() < 64; i++) {
            h = h.multiply(BigInteger.valueOf(31)).add(BigInteger.valueOf(values.get(i)));
        }
        check.holds("the hash is greater than a long on its way", h.bitLength() > 63);
        check.same("digest()", x.digest(), hashOf(values));
        check.same("digest() again", x.digest(), hashOf(values));
    }

    @Says(in = "Promise 28", value = "the number of states on the undo stack;")
    void digestOf0To4States() {
        PivotChamber x = new PivotChamber();
        for (int states = 0; states <= 4; states++) {
            digests(states + " states", x, states);
            x.setQuota(1);
        }
        digests("five calls", x, 4);
        x.undo();
        digests("one state less", x, 3);
    }

    @Says(in = "Promise 28", value = "whole() of 0 to 11;")
    void digestOfTheFirstAndTheLastValueOfTheWhole() {
        PivotChamber x = new PivotChamber();
        long before = x.digest();
        x.type('x');
        check.same("digest() with a text of one byte", x.digest(), before + 1);
        write(x, "x".repeat(149));
        check.same("digest() with a text of 150 bytes", x.digest(), before + 150);
        digests("no members", x, 0);
        digests("eight members", eight(400, 50), 4);
    }

    @Says(in = "Promise 28", value = "for each member in turn member() of 0 to 7, Float.floatToIntBits() of its "
            + "share, and Double.doubleToLongBits() of its part;")
    void digestOfTheBitsOfSharesAndParts() {
        digests("one alone, whose share is 1", chamber(1, 1), 2);
        digests("one alone, whose share is 0", chamber(2, 1), 2);
        digests("two of a half", chamber(2, 1, 1), 3);
        digests("three of a third", chamber(2, 1, 1, 1), 4);
        digests("a follower", fourWithFollower(), 4);
        digests("one who decides, and seven dummies", chamber(1, 1, 0, 0, 0, 0, 0, 0, 0), 4);
        digests("eight unlike ones", chamber(99, 50, 49, 48, 3, 2, 1, 0, 0), 4);
        // Small shares and parts, of which the bits go far down.
        PivotChamber x = chamber(50, 50, 1, 1, 1, 1, 1, 1, 49);
        for (int quota = 1; quota <= 105; quota++) {
            x.setQuota(quota);
            digests("eight by " + quota, x, 4);
        }
    }

    @Says(in = "Promise 28", value = "for each rule rule() of 0 to 2;")
    void digestOf0To4Rules() {
        PivotChamber x = chamber(1, 1, 1);
        int[][] rules = {{0, 2}, {1, 7}, {2, 255}, {0, 8}};
        digests("no rules", x, 3);
        for (int[] rule : rules) {
            x.addRule(rule[0], rule[1]);
            digests("rules up to " + rule[0] + " " + rule[1], x, 4);
        }
    }

    @Says(in = "Promise 28", value = "each least winning set, from the one with the least number on.")
    void digestOf0To70LeastSets() {
        digests("no least set", eight(9, 1), 4);
        digests("one least set", eight(8, 1), 4);
        digests("eight least sets", eight(1, 1), 4);
        digests("seventy least sets", eight(4, 1), 4);
    }

    @Says(in = "Promise 28", value = "Returns the hash.")
    void digestChangesWithEachChange() {
        PivotChamber x = four();
        long before = x.digest();
        check.same("again", x.digest(), before);
        x.setWeight(0, 5);
        check.holds("another weight", x.digest() != before);
        digests("another weight", x, 4);
        x.undo();
        digests("the weight as before", x, 3);
        runOf(x, "quota 9;");
        digests("another quota by a run", x, 4);
    }
}
