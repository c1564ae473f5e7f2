/** One test for each sentence of the promises 9 to 15: values of members, rules and the whole, sets, shares, parts. */
public final class ValuesTest extends ChamberTests {
    public static void main(String[] args) {
        new ValuesTest().runAll();
    }

    private void members(PivotChamber x, int what, int... due) {
        for (int m = 0; m < due.length; m++) {
            check.same("member(" + m + ", " + what + ")", x.member(m, what), due[m]);
        }
    }

    @Says(in = "Promise 9", value = "Returns a value of a member.")
    void eachValueOfEachMember() {
        PivotChamber x = chamber(6, 4, 3, 2, 1);
        x.follow(3, 1);
        int[][] due = {
            {4, -1, 0, 4, 2, 2, 0, 0},
            {3, -1, 1, 4, 2, 2, 0, 0},
            {2, -1, 0, 2, 2, 2, 0, 0},
            {1, 1, 0, 0, 0, 0, 0, 0}};
        for (int m = 0; m < due.length; m++) {
            for (int what = 0; what < due[m].length; what++) {
                check.same("member(" + m + ", " + what + ")", x.member(m, what), due[m][what]);
            }
        }
    }

    @Says(in = "Promise 9", value = "`member`: number of a member")
    void valuesOfTheFirstAndTheLastMember() {
        PivotChamber x = chamber(50, 50, 1, 1, 1, 1, 1, 1, 49);
        int[] first = {50, -1, 0, 50, 65, 20880, 0, 0};
        int[] last = {49, -1, 0, 49, 63, 15120, 0, 0};
        for (int what = 0; what <= 7; what++) {
            check.same("member(0, " + what + ")", x.member(0, what), first[what]);
            check.same("member(7, " + what + ")", x.member(7, what), last[what]);
        }
    }

    @Says(in = "Promise 9", value = "0 weight")
    void memberWeight() {
        members(chamber(1, 0, 50, 7), 0, 0, 50, 7);
        members(fourWithFollower(), 0, 4, 3, 2, 1);
    }

    @Says(in = "Promise 9", value = "1 the member that it follows (NONE if nobody)")
    void whomAMemberFollows() {
        PivotChamber x = eight(1, 1);
        members(x, 1, NONE, NONE, NONE, NONE, NONE, NONE, NONE, NONE);
        x.follow(1, 0);
        x.follow(2, 7);
        members(x, 1, NONE, 0, 7, NONE, NONE, NONE, NONE, NONE);
        x.leave(1);
        members(x, 1, NONE, NONE, 7, NONE, NONE, NONE, NONE, NONE);
    }

    @Says(in = "Promise 9", value = "2 how many follow it")
    void howManyFollowAMember() {
        PivotChamber x = eight(1, 1);
        members(x, 2, 0, 0, 0, 0, 0, 0, 0, 0);
        for (int m = 1; m < 8; m++) {
            x.follow(m, 0);
            check.same("member(0, 2)", x.member(0, 2), m);
        }
        members(x, 2, 7, 0, 0, 0, 0, 0, 0, 0);
    }

    @Says(in = "Promise 9", value = "3 weight of its bloc (0 if it is no player)")
    void theWeightOfTheBloc() {
        members(fourWithFollower(), 3, 4, 4, 2, 0);
        PivotChamber x = eight(1, 50);
        for (int m = 0; m < 7; m++) {
            x.follow(m, 7);
        }
        members(x, 3, 0, 0, 0, 0, 0, 0, 0, 400);
        x.leave(0);
        members(x, 3, 50, 0, 0, 0, 0, 0, 0, 350);
        members(chamber(1, 0), 3, 0);
    }

    @Says(in = "Promise 9", value = "4 swings")
    void memberSwings() {
        members(four(), 4, 5, 3, 3, 1);
        members(chamber(11, 4, 3, 2, 1), 4, 0, 0, 0, 0);
        members(fourWithFollower(), 4, 2, 2, 2, 0);
        members(chamber(1, 0, 0, 0, 0, 0, 0, 0, 1), 4, 0, 0, 0, 0, 0, 0, 0, 128);
    }

    @Says(in = "Promise 9", value = "5 orders")
    void memberOrders() {
        members(four(), 5, 10, 6, 6, 2);
        members(chamber(11, 4, 3, 2, 1), 5, 0, 0, 0, 0);
        members(fourWithFollower(), 5, 2, 2, 2, 0);
        members(chamber(1, 0, 0, 0, 0, 0, 0, 0, 1), 5, 0, 0, 0, 0, 0, 0, 0, 40320);
    }

    @Says(in = "Promise 9", value = "6 1 if it is a dummy or 0 if not")
    void memberIsADummy() {
        members(twoAndDummy(), 6, 0, 0, 1);
        members(chamber(12, 5, 5, 1), 6, 1, 1, 1);
        members(chamber(11, 5, 5, 1), 6, 0, 0, 0);
    }

    @Says(in = "Promise 9", value = "7 1 if it is needed or 0 if not")
    void memberIsNeeded() {
        members(twoAndDummy(), 7, 1, 1, 0);
        members(chamber(12, 5, 5, 1), 7, 0, 0, 0);
        members(chamber(11, 5, 5, 1), 7, 1, 1, 1);
    }

    @Says(in = "Promise 9", value = "(6 and 7 are 0 for members who are no players)")
    void aFollowerIsNeitherADummyNorNeeded() {
        PivotChamber x = chamber(2, 1, 1);
        x.follow(1, 0);
        members(x, 6, 0, 0);
        members(x, 7, 1, 0);
        x.setQuota(3);
        members(x, 6, 1, 0);
        members(x, 7, 0, 0);
        x.addRule(1, 1);
        x.setQuota(1);
        members(x, 6, 0, 0);
        members(x, 7, 1, 0);
    }

    @Says(in = "Promise 9", value = "Returns that value.")
    void aMembersValueFollowsEachChange() {
        PivotChamber x = chamber(6, 4, 3, 2, 1);
        check.same("swings", x.member(0, 4), 5);
        x.setWeight(0, 0);
        check.same("swings without weight", x.member(0, 4), 0);
        x.undo();
        check.same("swings after undo", x.member(0, 4), 5);
        x.addRule(1, 3);
        check.same("swings by a rule", x.member(0, 4), 2);
        x.dropRule(0);
        check.same("swings without it", x.member(0, 4), 5);
        runOf(x, "quota 10;");
        check.same("swings behind a run", x.member(0, 4), 1);
        x.setQuota(6);
        x.follow(3, 1);
        check.same("swings behind follow", x.member(0, 4), 2);
        x.leave(3);
        check.same("swings behind leave", x.member(0, 4), 5);
        x.add(0);
        check.same("swings behind add", x.member(0, 4), 10);
    }

    @Says(in = "Promise 9", value = "Throws `IndexOutOfBoundsException` if there is no such member")
    void memberRefusesOtherMembers() {
        PivotChamber x = four();
        refusesEach("member(m, 0)", x, PLACE, m -> x.member(m, 0), NONE_OF_FOUR);
        refusesEach("member(m, 7)", x, PLACE, m -> x.member(m, 7), NONE_OF_FOUR);
        refusesEach("member(m, 8)", x, PLACE, m -> x.member(m, 8), NONE_OF_FOUR);
        PivotChamber full = eight(1, 1);
        refusesEach("member(m, 1)", full, PLACE, m -> full.member(m, 1), NONE_OF_EIGHT);
        PivotChamber none = new PivotChamber();
        refusesEach("member(m, 0) of nobody", none, PLACE, m -> none.member(m, 0), 0, -1, 1);
    }

    @Says(in = "Promise 9", value = "Throws `IllegalArgumentException` if what is out of range")
    void memberRefusesOtherValues() {
        PivotChamber x = fourWithFollower();
        refusesEach("member(0, what)", x, ARGUMENT, what -> x.member(0, what), LEAST, -1, 8, 9, MOST);
        refusesEach("member(3, what)", x, ARGUMENT, what -> x.member(3, what), LEAST, -1, 8, 9, MOST);
    }

    @Says(in = "Promise 10", value = "Returns a value of a rule.")
    void eachValueOfEachRule() {
        PivotChamber x = chamber(400, 0, 0, 0);
        int[][] due = {{0, 3, 1}, {0, 4, 0}, {1, 2, 1}, {2, 0x84, 1}};
        for (int[] rule : due) {
            x.addRule(rule[0], rule[1]);
        }
        for (int r = 0; r < due.length; r++) {
            for (int what = 0; what < 3; what++) {
                check.same("rule(" + r + ", " + what + ")", x.rule(r, what), due[r][what]);
            }
        }
    }

    @Says(in = "Promise 10", value = "`rule`: number of a rule")
    void valuesOfTheFirstAndTheLastRule() {
        PivotChamber x = madeBy("rule 0 8;rule 1 1;rule 1 2;rule 2 255;");
        check.same("value of the first", x.rule(0, 1), 8);
        check.same("value of the last", x.rule(3, 1), 255);
    }

    @Says(in = "Promise 10", value = "0 kind")
    void ruleKind() {
        PivotChamber x = madeBy("rule 2 1;rule 1 1;rule 0 1;");
        for (int r = 0; r < 3; r++) {
            check.same("kind of " + r, x.rule(r, 0), 2 - r);
        }
    }

    @Says(in = "Promise 10", value = "1 value")
    void ruleValue() {
        PivotChamber x = madeBy("rule 0 1;rule 0 8;rule 1 0;rule 2 255;");
        int[] due = {1, 8, 0, 255};
        for (int r = 0; r < due.length; r++) {
            check.same("value of " + r, x.rule(r, 1), due[r]);
        }
    }

    @Says(in = "Promise 10", value = "2 1 if it holds when all say yes or 0 if not")
    void ruleHoldsWhenAllSayYes() {
        PivotChamber x = chamber(400, 0, 0);
        holds(x, 0, 1, 1);
        holds(x, 0, 2, 1);
        holds(x, 0, 3, 0);
        holds(x, 1, 0, 1);
        holds(x, 1, 1, 1);
        holds(x, 1, 2, 0);
        holds(x, 1, 7, 0);
        holds(x, 2, 2, 1);
        holds(x, 2, 0xFE, 1);
        holds(x, 2, 0xFC, 0);
        holds(x, 2, 128, 0);
        x.follow(1, 0);
        holds(x, 0, 2, 1);
        holds(x, 1, 1, 1);
        holds(x, 2, 2, 1);
        PivotChamber full = eight(1, 0);
        holds(full, 0, 8, 1);
        holds(full, 1, 7, 1);
        holds(full, 2, 128, 1);
        PivotChamber none = new PivotChamber();
        holds(none, 0, 1, 0);
        holds(none, 1, 0, 0);
        holds(none, 2, 255, 0);
    }

    private void holds(PivotChamber x, int kind, int value, int due) {
        x.addRule(kind, value);
        check.same("whether the rule " + kind + " " + value + " holds", x.rule(0, 2), due);
        x.dropRule(0);
    }

    @Says(in = "Promise 10", value = "Returns that value.")
    void aRulesValueFollowsEachChange() {
        PivotChamber x = chamber(1, 1);
        x.addRule(0, 2);
        check.same("whether it holds", x.rule(0, 2), 0);
        x.add(0);
        check.same("whether it holds behind add", x.rule(0, 2), 1);
        x.undo();
        check.same("whether it holds behind undo", x.rule(0, 2), 0);
    }

    @Says(in = "Promise 10", value = "Throws `IndexOutOfBoundsException` if there is no such rule")
    void ruleRefusesOtherRules() {
        PivotChamber x = madeBy("rule 0 1;rule 0 1;rule 0 1;rule 0 1;");
        refusesEach("rule(r, 0)", x, PLACE, r -> x.rule(r, 0), NONE_OF_FOUR);
        refusesEach("rule(r, 3)", x, PLACE, r -> x.rule(r, 3), NONE_OF_FOUR);
        x.dropRule(0);
        check.refuses("rule(3, 0) of three", x, PLACE, () -> x.rule(3, 0));
        PivotChamber none = four();
        refusesEach("rule(r, 2) of none", none, PLACE, r -> none.rule(r, 2), 0, -1, 1);
    }

    @Says(in = "Promise 10", value = "Throws `IllegalArgumentException` if what is out of range")
    void ruleRefusesOtherValues() {
        PivotChamber x = madeBy("rule 0 1;rule 1 1;");
        refusesEach("rule(0, what)", x, ARGUMENT, what -> x.rule(0, what), LEAST, -1, 3, 4, MOST);
        refusesEach("rule(1, what)", x, ARGUMENT, what -> x.rule(1, what), LEAST, -1, 3, 4, MOST);
    }

    private void whole(PivotChamber x, int... due) {
        for (int what = 0; what < due.length; what++) {
            check.same("whole(" + what + ")", x.whole(what), due[what]);
        }
    }

    @Says(in = "Promise 11", value = "Returns a value of the whole.")
    void eachValueOfTheWhole() {
        whole(four(), 4, 4, 6, 0, 10, 7, 3, 12, 0, 0, 0, 0);
        whole(twoAndDummy(), 3, 3, 10, 0, 11, 2, 1, 4, 4, 3, 0, 0);
        whole(new PivotChamber(), 0, 0, 1, 0, 0, 0, 0, 0, 0, 0, 0, 0);
        whole(eight(4, 1), 8, 8, 4, 0, 8, 163, 70, 280, 0, 0, 0, 0);
    }

    @Says(in = "Promise 11", value = "0 members, 1 players")
    void numbersOfMembersAndPlayers() {
        PivotChamber x = new PivotChamber();
        for (int m = 0; m < 8; m++) {
            check.same("members", x.whole(0), m);
            check.same("players", x.whole(1), m);
            x.add(1);
        }
        check.same("members of eight", x.whole(0), 8);
        check.same("players of eight", x.whole(1), 8);
        for (int m = 1; m < 8; m++) {
            x.follow(m, 0);
        }
        check.same("members when all follow one", x.whole(0), 8);
        check.same("players when all follow one", x.whole(1), 1);
    }

    @Says(in = "Promise 11", value = "2 quota, 3 rules, 4 sum of all weights")
    void quotaNumberOfRulesAndSum() {
        PivotChamber x = eight(400, 50);
        check.same("quota", x.whole(2), 400);
        check.same("sum", x.whole(4), 400);
        x.follow(7, 0);
        check.same("sum with a follower", x.whole(4), 400);
        for (int r = 0; r < 4; r++) {
            check.same("rules", x.whole(3), r);
            x.addRule(0, 1);
        }
        check.same("rules", x.whole(3), 4);
        check.same("sum of no weights", eight(1, 0).whole(4), 0);
        check.same("sum of nobody", new PivotChamber().whole(4), 0);
    }

    @Says(in = "Promise 11", value = "5 sets of players that win")
    void howManySetsWin() {
        check.same("all but the empty one", eight(1, 1).whole(5), 255);
        check.same("one", eight(8, 1).whole(5), 1);
        check.same("none", eight(9, 1).whole(5), 0);
        check.same("none of nobody", new PivotChamber().whole(5), 0);
        check.same("with a player for all members", fourWithFollower().whole(5), 4);
    }

    @Says(in = "Promise 11", value = "6 least winning sets")
    void howManyLeastSets() {
        check.same("the most that there can be", eight(4, 1).whole(6), 70);
        check.same("eight", eight(1, 1).whole(6), 8);
        check.same("one", eight(8, 1).whole(6), 1);
        check.same("none", eight(9, 1).whole(6), 0);
        check.same("none of nobody", new PivotChamber().whole(6), 0);
    }

    @Says(in = "Promise 11", value = "7 swings of all players")
    void howManySwings() {
        check.same("the most that there can be", eight(4, 1).whole(7), 280);
        check.same("eight", eight(8, 1).whole(7), 8);
        check.same("none", eight(9, 1).whole(7), 0);
        check.same("none of nobody", new PivotChamber().whole(7), 0);
        check.same("of players alone", fourWithFollower().whole(7), 6);
    }

    @Says(in = "Promise 11", value = "8 set of dummies, 9 set of needed players")
    void setsOfDummiesAndOfNeeded() {
        PivotChamber x = chamber(50, 0, 0, 0, 0, 0, 0, 0, 50);
        check.same("dummies", x.whole(8), 127);
        check.same("needed", x.whole(9), 128);
        x.setQuota(51);
        check.same("dummies when nothing wins", x.whole(8), 255);
        check.same("needed when nothing wins", x.whole(9), 0);
        check.same("dummies when all are needed", eight(8, 1).whole(8), 0);
        check.same("needed when all are", eight(8, 1).whole(9), 255);
    }

    @Says(in = "Promise 11", value = "10 how many rules have the same kind as the first one, itself counted (0 "
            + "without rules)")
    void howManyRulesAreLikeTheFirst() {
        check.same("without rules", new PivotChamber().whole(10), 0);
        check.same("one", madeBy("rule 2 1;").whole(10), 1);
        check.same("one of kind 0", madeBy("rule 0 1;").whole(10), 1);
        check.same("of two kinds", madeBy("rule 2 1;rule 1 1;").whole(10), 1);
        check.same("two apart", madeBy("rule 1 1;rule 0 1;rule 2 1;rule 1 2;").whole(10), 2);
        check.same("four", madeBy("rule 0 1;rule 0 2;rule 0 3;rule 0 4;").whole(10), 4);
        check.same("three, but the first", madeBy("rule 0 1;rule 2 1;rule 2 1;rule 2 1;").whole(10), 1);
        PivotChamber x = madeBy("rule 0 1;rule 2 1;rule 2 1;");
        x.dropRule(0);
        check.same("when the first was dropped", x.whole(10), 2);
        x.dropRule(0);
        x.dropRule(0);
        check.same("when all were dropped", x.whole(10), 0);
    }

    @Says(in = "Promise 11", value = "11 length of the command text")
    void theLengthOfTheText() {
        PivotChamber x = new PivotChamber();
        for (int length = 0; length < 150; length++) {
            check.same("length", x.whole(11), length);
            x.type(0);
        }
        check.same("length of a full text", x.whole(11), 150);
        x.clearCommands();
        check.same("length of an empty text", x.whole(11), 0);
    }

    @Says(in = "Promise 11", value = "Returns that value.")
    void aValueOfTheWholeFollowsEachChange() {
        PivotChamber x = four();
        check.same("sets that win", x.whole(5), 7);
        x.add(6);
        check.same("with a fifth", x.whole(5), 23);
        x.undo();
        check.same("without it", x.whole(5), 7);
        runOf(x, "quota 10;");
        check.same("behind a run", x.whole(5), 1);
    }

    @Says(in = "Promise 11", value = "Throws `IllegalArgumentException` if what is out of range")
    void wholeRefusesOtherValues() {
        PivotChamber x = four();
        refusesEach("whole(what)", x, ARGUMENT, x::whole, LEAST, -2, -1, 12, 13, MOST);
    }

    @Says(in = "Promise 12", value = "Tells whether a set wins.")
    void eachSetOfFour() {
        int[] due = {0, 0, 0, 1, 0, 1, 0, 1, 0, 0, 0, 1, 0, 1, 1, 1};
        for (int set = 0; set < due.length; set++) {
            check.same("wins(" + set + ")", four().wins(set), due[set]);
        }
    }

    @Says(in = "Promise 12", value = "`set`: a set of members, 0 to 255")
    void setsGoFrom0To255() {
        PivotChamber x = eight(4, 1);
        for (int set = 0; set <= 255; set++) {
            check.same("wins(" + set + ")", x.wins(set), Integer.bitCount(set) >= 4 ? 1 : 0);
        }
        check.same("wins(0) of nobody", new PivotChamber().wins(0), 0);
    }

    @Says(in = "Promise 12", value = "Returns 1 if it wins, otherwise 0.")
    void winsAnswers1Or0() {
        PivotChamber x = chamber(2, 1, 1);
        check.same("wins(3)", x.wins(3), 1);
        check.same("wins(1)", x.wins(1), 0);
        check.same("wins(0)", x.wins(0), 0);
        x.follow(1, 0);
        check.same("wins(1) with a follower", x.wins(1), 1);
        check.same("wins(2), of no player", x.wins(2), 0);
        check.same("wins(3)", x.wins(3), 1);
        x.addRule(0, 3);
        check.same("wins(3) against a rule", x.wins(3), 0);
    }

    @Says(in = "Promise 12", value = "Throws `IllegalArgumentException` if set is out of range, or has a member "
            + "that there is not")
    void winsRefusesOtherSets() {
        PivotChamber x = four();
        check.same("wins(15)", x.wins(15), 1);
        refusesEach("wins(set)", x, ARGUMENT, x::wins, LEAST, -256, -1, 16, 17, 31, 32, 128, 255, 256, 257, 271, MOST);
        PivotChamber full = eight(4, 1);
        refusesEach("wins(set) of eight", full, ARGUMENT, full::wins, LEAST, -1, 256, 511, MOST);
        PivotChamber none = new PivotChamber();
        refusesEach("wins(set) of nobody", none, ARGUMENT, none::wins, -1, 1, 2, 255, 256);
        PivotChamber withFollower = fourWithFollower();
        check.same("a follower is a member", withFollower.wins(8), 0);
    }

    private void least(PivotChamber x, int... due) {
        for (int i = 0; i < due.length; i++) {
            check.same("least(" + i + ")", x.least(i), due[i]);
        }
    }

    @Says(in = "Promise 13", value = "Returns a least winning set.")
    void leastSets() {
        least(four(), 3, 5, 14);
        least(fourWithFollower(), 3, 5, 6);
        least(chamber(6, 4, 1, 3, 2), 5, 9, 14);
    }

    @Says(in = "Promise 13", value = "0 for the one with the least number as a set, and so on")
    void leastSetsByTheirNumbers() {
        PivotChamber x = eight(4, 1);
        int last = 0;
        for (int i = 0; i < 70; i++) {
            int set = x.least(i);
            check.holds("the set " + i + " has a greater number", set > last);
            check.same("members of it", Integer.bitCount(set), 4);
            last = set;
        }
        check.same("the first one", x.least(0), 15);
        check.same("the second one", x.least(1), 23);
        check.same("the last one", x.least(69), 240);
    }

    @Says(in = "Promise 13", value = "Returns the set;")
    void leastAnswersTheSet() {
        least(eight(1, 1), 1, 2, 4, 8, 16, 32, 64, 128);
        least(eight(8, 1), 255);
        PivotChamber x = eight(4, 1);
        x.follow(0, 7);
        least(x, 30);
    }

    @Says(in = "Promise 13", value = "NONE if there are not so many.")
    void leastAnswersNoneBehindTheLast() {
        PivotChamber x = four();
        check.same("least(2)", x.least(2), 14);
        for (int index : new int[] {3, 4, 255, 256, 257, MOST}) {
            check.same("least(" + index + ")", x.least(index), NONE);
        }
        check.same("least(70) of 70", eight(4, 1).least(70), NONE);
        check.same("least(0) of none", eight(9, 1).least(0), NONE);
        check.same("least(0) of nobody", new PivotChamber().least(0), NONE);
        x.setQuota(10);
        check.same("least(1) when there are less than before", x.least(1), NONE);
        check.same("least(0)", x.least(0), 15);
    }

    @Says(in = "Promise 13", value = "Throws `IllegalArgumentException` if index is negative")
    void leastRefusesNegativeNumbers() {
        PivotChamber x = four();
        refusesEach("least(index)", x, ARGUMENT, x::least, -1, -2, LEAST);
        PivotChamber none = new PivotChamber();
        refusesEach("least(index) of nobody", none, ARGUMENT, none::least, -1, LEAST);
    }

    @Says(in = "Promise 14", value = "Returns the share of a member.")
    void sharesOfFour() {
        float[] due = {5.0f / 12.0f, 0.25f, 0.25f, 1.0f / 12.0f};
        for (int m = 0; m < due.length; m++) {
            check.same("share(" + m + ")", four().share(m), due[m]);
        }
    }

    @Says(in = "Promise 14", value = "`member`: number of a member")
    void shareOfTheFirstAndTheLast() {
        PivotChamber x = chamber(1, 1, 0, 0, 0, 0, 0, 0, 0);
        check.same("share(0)", x.share(0), 1.0f);
        check.same("share(7)", x.share(7), 0.0f);
        PivotChamber y = chamber(1, 0, 0, 0, 0, 0, 0, 0, 1);
        check.same("share(0)", y.share(0), 0.0f);
        check.same("share(7)", y.share(7), 1.0f);
    }

    @Says(in = "Promise 14", value = "Returns the share.")
    void shareIsAFloat() {
        float third = chamber(2, 1, 1, 1).share(0);
        check.same("a third", third, 1.0f / 3.0f);
        check.holds("is no double's third", third != 1.0 / 3.0);
        check.same("when there are no swings", chamber(4, 1, 1, 1).share(0), 0.0f);
        check.same("of a follower", fourWithFollower().share(3), 0.0f);
    }

    @Says(in = "Promise 14", value = "Throws `IndexOutOfBoundsException` if there is no such member")
    void shareRefusesOtherMembers() {
        PivotChamber x = four();
        refusesEach("share(m)", x, PLACE, m -> (int) x.share(m), NONE_OF_FOUR);
        PivotChamber full = eight(1, 1);
        refusesEach("share(m)", full, PLACE, m -> (int) full.share(m), NONE_OF_EIGHT);
        PivotChamber none = new PivotChamber();
        refusesEach("share(m) of nobody", none, PLACE, m -> (int) none.share(m), 0, -1);
    }

    @Says(in = "Promise 15", value = "Returns the part of a member.")
    void partsOfFour() {
        double[] due = {10.0 / 24.0, 0.25, 0.25, 2.0 / 24.0};
        for (int m = 0; m < due.length; m++) {
            check.same("part(" + m + ")", four().part(m), due[m]);
        }
    }

    @Says(in = "Promise 15", value = "`member`: number of a member")
    void partOfTheFirstAndTheLast() {
        PivotChamber x = chamber(50, 50, 1, 1, 1, 1, 1, 1, 49);
        check.same("part(0)", x.part(0), 20880.0 / 40320.0);
        check.same("part(7)", x.part(7), 15120.0 / 40320.0);
    }

    @Says(in = "Promise 15", value = "Returns the part.")
    void partIsADouble() {
        check.same("a third", chamber(2, 1, 1, 1).part(0), 2.0 / 6.0);
        check.same("when nothing wins", chamber(4, 1, 1, 1).part(0), 0.0);
        check.same("of a follower", fourWithFollower().part(3), 0.0);
        check.same("of one alone", chamber(1, 1).part(0), 1.0);
    }

    @Says(in = "Promise 15", value = "Throws `IndexOutOfBoundsException` if there is no such member")
    void partRefusesOtherMembers() {
        PivotChamber x = four();
        refusesEach("part(m)", x, PLACE, m -> (int) x.part(m), NONE_OF_FOUR);
        PivotChamber full = eight(1, 1);
        refusesEach("part(m)", full, PLACE, m -> (int) full.part(m), NONE_OF_EIGHT);
        PivotChamber none = new PivotChamber();
        refusesEach("part(m) of nobody", none, PLACE, m -> (int) none.part(m), 0, -1);
    }
}
