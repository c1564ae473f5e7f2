/** One test for each sentence of "Texts of commands" in the document's "Terms". */
public final class TextTermsTest extends ChamberTests {
    /** Room for one command of each kind: two members, one of whom follows, and a rule. */
    private static final String READY = "add 4;add 3;follow 1 0;rule 0 2;";

    public static void main(String[] args) {
        new TextTermsTest().runAll();
    }

    /** What the text brings is what was to be seen, where the chamber is ready for all commands. */
    private void brings(String text, int commands, int what, int due) {
        PivotChamber x = madeBy(READY);
        check.same("runCommands() of '" + text + "'", runOf(x, text), commands);
        check.same("whole(" + what + ") behind '" + text + "'", x.whole(what), due);
    }

    @Says(in = "Terms", value = "The command text has at most 150 bytes.")
    void aTextOf150BytesAndNoMore() {
        PivotChamber x = new PivotChamber();
        write(x, "quota 77;".repeat(16) + "add 1;");
        check.same("length", x.whole(11), 150);
        check.refuses("a byte more", x, STATE, () -> x.type(' '));
        check.same("the whole of it is run", x.runCommands(), 17);
        check.same("the last command of it too", x.whole(0), 1);
        check.same("the shortest commands, spaces behind them", runOf(x, "add 0;".repeat(7) + " ".repeat(108)), 7);
        check.same("members", x.whole(0), 8);
    }

    @Says(in = "Terms", value = "(perhaps none: a text that is empty, or has spaces alone, has no fault)")
    void noCommandIsNoFault() {
        for (int spaces : new int[] {0, 1, 2, 149, 150}) {
            PivotChamber x = new PivotChamber();
            check.same(spaces + " spaces", runOf(x, " ".repeat(spaces)), 0);
            savedStates(x, 1);
        }
    }

    @Says(in = "Terms", value = "each of which is a word of letters a to z")
    void thePlacesBesideAToZAreNoLetters() {
        faults(0, "`", "{", "A", "Z", "@", "[", "0", "9 1;", "\u0000", "\u007f", "`add 1;", "Add 1;", "aDd 1;",
                "1add 1;");
        faults(3, "add`1;", "add{1;", "addA 1;", "addZ 1;", "add@ 1;", "add[", "add\u0000", "add\u007f 1;");
        // With a letter behind it the word is another one.
        faults(0, "adda 1;", "addz 1;", "aadd 1;", "zadd 1;");
    }

    @Says(in = "Terms", value = "followed by its numbers")
    void noNumberTooFewAndNoneTooMany() {
        faults(3, "add;", "add");
        faults(4, "add ;", "drop;");
        faults(5, "quota;", "leave;", "drop ;");
        faults(6, "weight;", "follow;", "rule 1;", "rule 1", "add 1 2;");
        faults(7, "rule 1 ;", "drop 1 2;", "rule 1 ", "add 1  2;");
        faults(8, "weight 1;", "follow 1;", "quota 1 2;", "leave 1 2;");
        faults(9, "weight 1 ;", "follow 1 ;", "rule 0 1 2;");
        faults(11, "weight 1 2 3;", "follow 1 2 3;");
        faults(-1, "add 1;", "weight 1 2;", "quota 1;", "follow 1 2;", "leave 1;", "rule 1 2;", "drop 1;");
    }

    @Says(in = "Terms", value = "each of one to three digits")
    void oneToThreeDigitsAndNothingBesideThem() {
        faults(-1, "add 0;", "add 9;", "add 10;", "add 99;", "add 100;", "add 999;");
        faults(4, "add /;", "add :;", "add ;", "add a;", "add -1;", "add +1;", "add .;");
        faults(5, "add 1/;", "add 1:;", "add 1a;", "add 1.0;", "add 1,;");
        faults(6, "add 12x;", "add 00-;");
        faults(7, "add 123x;");
        brings("quota 9;", 1, 2, 9);
        brings("quota 10;", 1, 2, 10);
        brings("quota 123;", 1, 2, 123);
        brings("quota 400;", 1, 2, 400);
    }

    @Says(in = "Terms", value = "(zeros in front are allowed; a fourth digit cannot stand)")
    void zerosInFrontAndNoFourthDigit() {
        brings("quota 07;", 1, 2, 7);
        brings("quota 007;", 1, 2, 7);
        brings("quota 070;", 1, 2, 70);
        brings("weight 000 05;", 1, 4, 8);
        faults(-1, "add 0;", "add 00;", "add 000;");
        faults(7, "add 0000;", "add 0001;", "add 1000;", "add 1234", "add 12345;");
        faults(9, "drop  1111;");
        faults(10, "weight 1234 1;", "follow 0001 2;");
        faults(12, "weight 1 1234;", "follow 1 0002;");
        faults(14, "weight 123 1234;");
    }

    @Says(in = "Terms", value = "with at least one space (byte 32) in front")
    void aSpaceOrMoreInFrontOfEachNumber() {
        faults(-1, "add 1;", "add  1;", "add" + " ".repeat(145) + "1;", "weight   1    2;");
        faults(3, "add1;", "add\t1;", "add\n1;", "add\u001f1;", "add!1;", "add_1;", "add\u00001;");
        faults(4, "add \t1;", "drop1;", "add !1;");
        faults(8, "weight 1,2;", "weight 1\t2;", "weight 1-2;", "follow 1\u001f2;", "follow 1!2;");
        faults(9, "weight 12");
    }

    @Says(in = "Terms", value = "and a semicolon")
    void eachCommandEndsWithASemicolon() {
        faults(5, "add 1", "add 1:", "add 1<", "add 1,", "add 1.", "add 1\n");
        faults(6, "add 1 ", "add 1 add 2;", "add 1;;", "add 1 :;");
        faults(0, ";", ";add 1;");
        faults(1, " ;");
        faults(7, "add 1; ;");
        faults(12, "add 1; add 2");
        faults(-1, "add 1;", "add 1;add 2;");
    }

    @Says(in = "Terms", value = "Spaces may also stand in front of a command, in front of a semicolon, and at "
            + "the end.")
    void spacesNowhereElse() {
        faults(-1, " add 1;", "   add 1;", "add 1 ;", "add 1   ;", "add 1; ", "add 1;   ", "add 1; add 2;",
                "  add  1  ;  quota  2  ;  ");
        faults(0, "ad d 1;", "a dd 1;", "a d d 1;");
        faults(2, "  ad d 1;");
        faults(8, "quota 1 2;");
        faults(6, "add 1 0;");
        brings("  quota   12  ;   ", 1, 2, 12);
    }

    @Says(in = "Terms", value = "add w (add(w))")
    void theWordAdd() {
        brings("add 2;", 1, 4, 9);
        brings("add 2;", 1, 0, 3);
        faults(0, "ad 2;", "adds 2;", "a 2;", "bdd 2;", "aed 2;", "adc 2;");
    }

    @Says(in = "Terms", value = "weight m w (setWeight(m, w))")
    void theWordWeight() {
        PivotChamber x = madeBy(READY);
        check.same("weight 1 0;", runOf(x, "weight 1 0;"), 1);
        check.same("weight of 1", x.member(1, 0), 0);
        check.same("weight of 0", x.member(0, 0), 4);
        check.same("weight 0 50;", runOf(x, "weight 0 50;"), 1);
        check.same("weight of 0", x.member(0, 0), 50);
        faults(0, "weigh 1 0;", "weights 1 0;", "setweight 1 0;", "w 1 0;", "xeight 1 0;", "weighs 1 0;");
    }

    @Says(in = "Terms", value = "quota q (setQuota(q))")
    void theWordQuota() {
        brings("quota 400;", 1, 2, 400);
        brings("quota 400;quota 1;", 2, 2, 1);
        faults(0, "quot 1;", "quotas 1;", "setquota 1;", "q 1;", "puota 1;", "quoto 1;");
    }

    @Says(in = "Terms", value = "follow a b (follow(a, b))")
    void theWordFollow() {
        PivotChamber x = madeBy("add 4;add 3;add 2;follow 2 0;follow 1 0;");
        check.same("whom 2 follows", x.member(2, 1), 0);
        check.same("whom 1 follows", x.member(1, 1), 0);
        check.same("whom 0 follows", x.member(0, 1), NONE);
        faults(0, "follo 1 0;", "follows 1 0;", "f 1 0;", "hollow 1 0;", "follos 1 0;");
    }

    @Says(in = "Terms", value = "leave a (leave(a))")
    void theWordLeave() {
        brings("leave 1;", 1, 1, 2);
        brings("leave 0;", 0, 1, 1);
        faults(0, "leav 1;", "leaves 1;", "l 1;", "heave 1;", "least 1;");
    }

    @Says(in = "Terms", value = "rule k v (addRule(k, v))")
    void theWordRule() {
        PivotChamber x = madeBy("rule 1 0;rule 0 1;rule 2 255;");
        int[][] due = {{1, 0}, {0, 1}, {2, 255}};
        for (int r = 0; r < due.length; r++) {
            check.same("kind of " + r, x.rule(r, 0), due[r][0]);
            check.same("value of " + r, x.rule(r, 1), due[r][1]);
        }
        faults(0, "rul 1 0;", "rules 1 0;", "addrule 1 0;", "r 1 0;", "mule 1 0;", "rulf 1 0;");
    }

    @Says(in = "Terms", value = "drop r (dropRule(r))")
    void theWordDrop() {
        brings("drop 0;", 1, 3, 0);
        PivotChamber x = madeBy("rule 1 0;rule 0 1;rule 2 255;drop 1;");
        check.same("rules", x.whole(3), 2);
        check.same("value of 1", x.rule(1, 1), 255);
        faults(0, "dro 1;", "drops 1;", "droprule 1;", "d 1;", "crop 1;", "droq 1;");
    }

    @Says(in = "Terms", value = "The words are:")
    void noOtherWords() {
        faults(0, "undo;", "undo 1;", "type 1;", "run;", "clear;", "digest;", "none 1;", "member 0 0;", "zzz", "a",
                "z");
        faults(6, "add 1;undo;", "add 1;addadd 1;");
    }

    @Says(in = "Terms", value = "The fault of a command text is the index of the first byte that cannot stand "
            + "at its place")
    void theFirstOfSeveralFaults() {
        faults(4, "add x; foo", "add x y z", "add ;;;;");
        faults(0, "foo 1; add x;", "!add x;");
        faults(11, "add 1; add x; foo", "add 1; add -;");
        faults(6, "add 1;?", "add 1;? ? ?");
        faults(3, "add");
        // The last of 150 bytes.
        faults(149, "quota 77;".repeat(16) + "add 1?", " ".repeat(149) + "?");
    }

    @Says(in = "Terms", value = "or the length of the text if it ends too soon")
    void theLengthIfItEndsTooSoon() {
        String whole = "  follow 12  345 ; ";
        for (int length = 0; length <= whole.length(); length++) {
            boolean isWord = length > 2 && length < 8;
            boolean isWhole = length <= 2 || length >= 18;
            faults(isWhole ? -1 : isWord ? 2 : length, whole.substring(0, length));
        }
        faults(150, "quota 77;".repeat(16) + "add 10", " ".repeat(147) + "add", "add" + " ".repeat(147),
                "add 1" + " ".repeat(145));
    }

    @Says(in = "Terms", value = "A word that is not one of these is at fault with its first byte")
    void anUnknownWordIsAtFaultWithItsFirstByte() {
        faults(0, "foo", "foo 1;", "addd 1;", "adx 1;", "weighty 1 2;");
        faults(2, "  foo", "  addd 1;");
        faults(6, "add 1;foo", "add 1;quotb 1;");
        faults(9, "add 1;   foo;");
        faults(0, "z".repeat(150), "add".repeat(50));
        faults(149, " ".repeat(149) + "z");
    }

    @Says(in = "Terms", value = "found when the word is complete: when a byte that is none of a to z, or the "
            + "end of the text, follows it")
    void aWordIsCompleteByAnotherByteOrTheEnd() {
        faults(0, "ad", "quot", "foo", "foo ", "foo;", "foo1", "fooA", "foo`", "foo{", "foo\u0000", "ad;", "ad1 1;",
                "adD");
        faults(3, "add", "addD", "add;", "add`");
        faults(7, "add 1; ad", "add 1; foo;");
        faults(10, "add 1; add");
    }

    @Says(in = "Terms", value = "(That a number is out of its range is no fault.)")
    void numbersOutOfRangeAreNoFault() {
        String[] texts = {"add 51;", "add 999;", "weight 9 0;", "weight 0 51;", "quota 0;", "quota 401;", "follow 0 9;",
            "follow 0 0;", "follow 999 999;", "leave 9;", "rule 3 1;", "rule 0 0;", "rule 0 9;", "rule 1 8;",
            "rule 2 0;", "rule 2 256;", "drop 1;", "drop 999;"};
        for (String text : texts) {
            PivotChamber x = madeBy(READY);
            check.same("runCommands() of '" + text + "'", runOf(x, text), 0);
            check.same("states left behind '" + text + "'", x.undo(), 1);
        }
    }

    @Says(in = "Terms", value = "To run a command text means: if it has a fault, nothing is done")
    void nothingIsDoneWithAFault() {
        String[] texts = {"x", "add 1;x", "add 1;quota 5;rule 0 1;weight 0 9;drop 0", "add 1", "add 1; ;"};
        for (String text : texts) {
            PivotChamber x = fourWithFollower();
            PivotChamber twin = fourWithFollower();
            write(x, text);
            write(twin, text);
            check.holds("'" + text + "' has a fault", x.runCommands() <= -10);
            check.same("members", x.whole(0), 4);
            alike("behind '" + text + "'", x, twin);
        }
    }

    @Says(in = "Terms", value = "otherwise the commands are carried out in their order")
    void oneCommandAfterTheOther() {
        PivotChamber x = new PivotChamber();
        check.same("a run", runOf(x, "add 1;weight 0 7;quota 3;quota 9;add 2;follow 1 0;rule 0 1;rule 0 2;drop 0;"), 9);
        check.same("weight of 0", x.member(0, 0), 7);
        check.same("quota", x.whole(2), 9);
        check.same("the rule that is left", x.rule(0, 1), 2);
        check.same("wins(1)", x.wins(1), 1);
        check.same("what comes too early stops the run", runOf(new PivotChamber(), "weight 0 7;add 1;"), 0);
        check.same("leaving, and following another one", runOf(x, "add 3;leave 1;follow 1 2;"), 3);
        check.same("whom 1 follows", x.member(1, 1), 2);
    }

    @Says(in = "Terms", value = "until one of them would throw an exception, which is not thrown")
    void anyExceptionStopsTheRun() {
        String[] stops = {"add 51;", "weight 2 1;", "weight 0 51;", "quota 0;", "quota 401;", "follow 2 0;",
            "follow 0 2;", "follow 1 1;", "follow 1 0;", "follow 0 1;", "leave 0;", "leave 2;", "rule 3 1;",
            "rule 0 9;", "rule 1 8;", "rule 2 256;", "drop 1;"};
        for (String stop : stops) {
            PivotChamber x = madeBy(READY);
            check.same("at once by " + stop, runOf(x, stop + "quota 99;"), 0);
            check.same("the quota behind it", x.whole(2), 1);
            check.same("as the second one: " + stop, runOf(x, "quota 98;" + stop + "quota 99;"), 1);
            check.same("the quota before it", x.whole(2), 98);
        }
        check.same("at the ninth member", runOf(new PivotChamber(), "add 1;".repeat(10)), 8);
        check.same("at the fifth rule", runOf(new PivotChamber(), "rule 0 1;".repeat(6)), 4);
    }

    @Says(in = "Terms", value = "those before it stay done, and they alone count")
    void whatCameBeforeTheStopStays() {
        PivotChamber x = new PivotChamber();
        check.same("a run", runOf(x, "add 1;add 2;quota 3;add 51;add 4;quota 9;"), 3);
        check.same("members", x.whole(0), 2);
        check.same("quota", x.whole(2), 3);
        check.same("sum", x.whole(4), 3);
        check.same("sets that win", x.whole(5), 1);
    }

    @Says(in = "Terms", value = "A run saves one state, the one from before it; its commands save none.")
    void aRunSavesOneState() {
        PivotChamber x = madeBy(READY);
        long before = x.digest();
        write(x, "add 1;add 2;quota 3;quota 4;quota 5;drop 0;");
        check.same("a run of six", x.runCommands(), 6);
        check.same("undo()", x.undo(), 1);
        x.clearCommands();
        check.same("the state from before it", x.digest(), before);
        savedStates(x, 1);
        PivotChamber stopped = new PivotChamber();
        runOf(stopped, "add 1;add 2;add 51;");
        savedStates(stopped, 1);
        check.same("members", stopped.whole(0), 0);
        PivotChamber full = chamber(1, 1, 2, 3, 4);
        runOf(full, "quota 7;quota 8;");
        savedStates(full, 4);
        check.same("the oldest alone is dropped", full.whole(0), 2);
    }
}
