/** One test for each sentence of the promises 1 to 8: a new object, members, the quota and rules. */
public final class MembersTest extends ChamberTests {
    public static void main(String[] args) {
        new MembersTest().runAll();
    }

    @Says(in = "Promise 1", value = "Creates a chamber without members and rules")
    void newWithoutMembersAndRules() {
        PivotChamber x = new PivotChamber();
        for (int what : new int[] {0, 1, 3, 4, 5, 6, 7, 8, 9, 10}) {
            check.same("whole(" + what + ")", x.whole(what), 0);
        }
        check.refuses("member(0, 0)", x, PLACE, () -> x.member(0, 0));
        check.refuses("rule(0, 0)", x, PLACE, () -> x.rule(0, 0));
        check.same("the first member", x.add(1), 0);
        check.same("the first rule", x.addRule(0, 1), 0);
        check.same("members of another new object", new PivotChamber().whole(0), 0);
        check.same("rules of another new object", new PivotChamber().whole(3), 0);
    }

    @Says(in = "Promise 1", value = "with the quota 1")
    void newWithTheQuota1() {
        check.same("quota", new PivotChamber().whole(2), 1);
        check.same("setQuota(5)", new PivotChamber().setQuota(5), 1);
    }

    @Says(in = "Promise 1", value = "an empty command text")
    void newWithAnEmptyText() {
        check.same("length", new PivotChamber().whole(11), 0);
        check.same("clearCommands()", new PivotChamber().clearCommands(), 0);
        check.same("type(0)", new PivotChamber().type(0), 1);
        check.same("runCommands()", new PivotChamber().runCommands(), 0);
    }

    @Says(in = "Promise 1", value = "an empty undo stack")
    void newWithNothingToUndo() {
        PivotChamber x = new PivotChamber();
        check.refuses("undo()", x, STATE, x::undo);
        x.add(1);
        check.same("undo()", x.undo(), 0);
    }

    @Says(in = "Promise 2", value = "Adds a member, who follows nobody.")
    void addedMembersFollowNobody() {
        PivotChamber x = eight(1, 1);
        for (int m = 0; m < 8; m++) {
            check.same("whom " + m + " follows", x.member(m, 1), NONE);
            check.same("how many follow " + m, x.member(m, 2), 0);
        }
        PivotChamber y = chamber(1, 3);
        y.add(4);
        y.follow(1, 0);
        y.undo();
        y.undo();
        check.same("in the place of a follower who is undone", y.add(8), 1);
        check.same("whom it follows", y.member(1, 1), NONE);
        check.same("its weight", y.member(1, 0), 8);
    }

    @Says(in = "Promise 2", value = "Undoable.")
    void addIsUndoable() {
        PivotChamber x = new PivotChamber();
        x.add(1);
        check.same("undo()", x.undo(), 0);
        check.same("members", x.whole(0), 0);
        PivotChamber y = eight(1, 1);
        check.same("undo() of the quota", y.undo(), 3);
        check.same("undo() of the eighth", y.undo(), 2);
        check.same("members", y.whole(0), 7);
    }

    @Says(in = "Promise 2", value = "`weight`: 0 to 50")
    void addTakesWeightsFrom0To50() {
        for (int weight = 0; weight <= 50; weight++) {
            PivotChamber x = new PivotChamber();
            check.same("add(" + weight + ")", x.add(weight), 0);
            check.same("its weight", x.member(0, 0), weight);
        }
    }

    @Says(in = "Promise 2", value = "Returns the number of the member.")
    void addAnswers0To7() {
        PivotChamber x = new PivotChamber();
        for (int m = 0; m < 8; m++) {
            check.same("add(50)", x.add(50), m);
        }
        x.undo();
        check.same("add(0) after undo", x.add(0), 7);
    }

    @Says(in = "Promise 2", value = "Throws `IllegalArgumentException` if weight is out of range")
    void addRefusesOtherWeights() {
        PivotChamber x = new PivotChamber();
        refusesEach("add(w)", x, ARGUMENT, x::add, NO_WEIGHTS);
        PivotChamber full = eight(1, 1);
        refusesEach("add(w) of a ninth", full, ARGUMENT, full::add, NO_WEIGHTS);
    }

    @Says(in = "Promise 2", value = "Throws `IllegalStateException` if there are 8 members")
    void addRefusesANinth() {
        PivotChamber x = chamber(1, 1, 1, 1, 1, 1, 1, 1);
        check.same("an eighth", x.add(1), 7);
        refusesEach("add(w)", x, STATE, x::add, 0, 1, 50);
        x.follow(7, 0);
        check.refuses("a ninth, though 7 are players", x, STATE, () -> x.add(1));
        x.undo();
        x.undo();
        check.same("an eighth again", x.add(1), 7);
    }

    @Says(in = "Promise 3", value = "Sets the weight of a member.")
    void aNewWeightCounts() {
        PivotChamber x = chamber(3, 2, 1);
        check.same("sets that win", x.whole(5), 1);
        x.setWeight(0, 3);
        check.same("weight of 0", x.member(0, 0), 3);
        check.same("weight of 1", x.member(1, 0), 1);
        check.same("sets that win", x.whole(5), 2);
        check.same("sum", x.whole(4), 4);
        x.follow(1, 0);
        x.setWeight(1, 50);
        check.same("weight of the bloc, by its follower", x.member(0, 3), 53);
    }

    @Says(in = "Promise 3", value = "Undoable.")
    void setWeightIsUndoable() {
        PivotChamber x = madeBy("add 4;add 3;");
        x.setWeight(1, 50);
        x.setWeight(1, 50);
        check.same("undo() of the same again", x.undo(), 2);
        check.same("weight", x.member(1, 0), 50);
        check.same("undo()", x.undo(), 1);
        check.same("weight", x.member(1, 0), 3);
    }

    @Says(in = "Promise 3", value = "`member`: number of a member")
    void setWeightOfTheFirstAndTheLast() {
        PivotChamber x = eight(1, 1);
        check.same("setWeight(0, 2)", x.setWeight(0, 2), 1);
        check.same("setWeight(7, 3)", x.setWeight(7, 3), 1);
        for (int m = 0; m < 8; m++) {
            check.same("weight of " + m, x.member(m, 0), m == 0 ? 2 : m == 7 ? 3 : 1);
        }
    }

    @Says(in = "Promise 3", value = "`weight`: 0 to 50")
    void setWeightTakesWeightsFrom0To50() {
        PivotChamber x = chamber(1, 50);
        for (int weight = 0; weight <= 50; weight++) {
            x.setWeight(0, weight);
            check.same("weight", x.member(0, 0), weight);
        }
    }

    @Says(in = "Promise 3", value = "Returns the previous weight.")
    void setWeightAnswersThePreviousOne() {
        PivotChamber x = chamber(1, 7, 1);
        check.same("setWeight(0, 0)", x.setWeight(0, 0), 7);
        check.same("setWeight(0, 50)", x.setWeight(0, 50), 0);
        check.same("setWeight(0, 50)", x.setWeight(0, 50), 50);
        check.same("setWeight(0, 7)", x.setWeight(0, 7), 50);
        check.same("setWeight(1, 0)", x.setWeight(1, 0), 1);
        x.undo();
        check.same("setWeight(1, 2) after undo", x.setWeight(1, 2), 1);
    }

    @Says(in = "Promise 3", value = "Throws `IndexOutOfBoundsException` if there is no such member")
    void setWeightRefusesOtherMembers() {
        PivotChamber x = four();
        refusesEach("setWeight(m, 1)", x, PLACE, m -> x.setWeight(m, 1), NONE_OF_FOUR);
        refusesEach("setWeight(m, 51)", x, PLACE, m -> x.setWeight(m, 51), NONE_OF_FOUR);
        PivotChamber full = eight(1, 1);
        refusesEach("setWeight(m, 1)", full, PLACE, m -> full.setWeight(m, 1), NONE_OF_EIGHT);
        PivotChamber none = new PivotChamber();
        refusesEach("setWeight(m, 1)", none, PLACE, m -> none.setWeight(m, 1), 0, -1, 1);
    }

    @Says(in = "Promise 3", value = "Throws `IllegalArgumentException` if weight is out of range")
    void setWeightRefusesOtherWeights() {
        PivotChamber x = four();
        refusesEach("setWeight(0, w)", x, ARGUMENT, w -> x.setWeight(0, w), NO_WEIGHTS);
        refusesEach("setWeight(3, w)", x, ARGUMENT, w -> x.setWeight(3, w), NO_WEIGHTS);
    }

    @Says(in = "Promise 4", value = "Sets the quota.")
    void aNewQuotaCounts() {
        PivotChamber x = four();
        x.setQuota(10);
        check.same("quota", x.whole(2), 10);
        check.same("sets that win", x.whole(5), 1);
        x.setQuota(11);
        check.same("sets that win", x.whole(5), 0);
        x.setQuota(1);
        check.same("sets that win", x.whole(5), 15);
    }

    @Says(in = "Promise 4", value = "Undoable.")
    void setQuotaIsUndoable() {
        PivotChamber x = new PivotChamber();
        x.setQuota(400);
        x.setQuota(400);
        check.same("undo() of the same again", x.undo(), 1);
        check.same("quota", x.whole(2), 400);
        check.same("undo()", x.undo(), 0);
        check.same("quota", x.whole(2), 1);
    }

    @Says(in = "Promise 4", value = "`quota`: 1 to 400")
    void quotasGoFrom1To400() {
        PivotChamber x = new PivotChamber();
        for (int quota = 1; quota <= 400; quota++) {
            x.setQuota(quota);
            check.same("quota", x.whole(2), quota);
        }
    }

    @Says(in = "Promise 4", value = "Returns the previous quota.")
    void setQuotaAnswersThePreviousOne() {
        PivotChamber x = new PivotChamber();
        check.same("setQuota(400)", x.setQuota(400), 1);
        check.same("setQuota(400)", x.setQuota(400), 400);
        check.same("setQuota(1)", x.setQuota(1), 400);
        check.same("setQuota(2)", x.setQuota(2), 1);
        x.undo();
        check.same("setQuota(3) after undo", x.setQuota(3), 1);
    }

    @Says(in = "Promise 4", value = "Throws `IllegalArgumentException` if quota is out of range")
    void setQuotaRefusesOtherQuotas() {
        PivotChamber x = four();
        refusesEach("setQuota(q)", x, ARGUMENT, x::setQuota, NO_QUOTAS);
        check.same("quota", x.whole(2), 6);
    }

    @Says(in = "Promise 5", value = "Lets a member follow another one.")
    void afterFollowOneFollowsTheOther() {
        PivotChamber x = four();
        x.follow(3, 1);
        check.same("whom 3 follows", x.member(3, 1), 1);
        check.same("how many follow 1", x.member(1, 2), 1);
        check.same("whom 1 follows", x.member(1, 1), NONE);
        check.same("players", x.whole(1), 3);
        x.follow(2, 1);
        x.follow(0, 1);
        check.same("how many follow 1", x.member(1, 2), 3);
        check.same("players", x.whole(1), 1);
    }

    @Says(in = "Promise 5", value = "Undoable.")
    void followIsUndoable() {
        PivotChamber x = madeBy("add 4;add 3;add 2;follow 2 0;");
        x.follow(1, 0);
        check.same("undo()", x.undo(), 1);
        check.same("whom 1 follows", x.member(1, 1), NONE);
        check.same("whom 2 follows", x.member(2, 1), 0);
        check.same("weight of the bloc", x.member(0, 3), 6);
    }

    @Says(in = "Promise 5", value = "`member`: number of a member")
    void theFirstAndTheLastMayFollow() {
        PivotChamber x = eight(1, 1);
        check.same("follow(0, 3)", x.follow(0, 3), 2);
        check.same("follow(7, 3)", x.follow(7, 3), 3);
        check.same("whom 0 follows", x.member(0, 1), 3);
        check.same("whom 7 follows", x.member(7, 1), 3);
    }

    @Says(in = "Promise 5", value = "`other`: number of another member")
    void theFirstAndTheLastMayBeFollowed() {
        PivotChamber x = eight(1, 1);
        check.same("follow(3, 0)", x.follow(3, 0), 2);
        check.same("follow(4, 7)", x.follow(4, 7), 2);
        check.same("whom 3 follows", x.member(3, 1), 0);
        check.same("whom 4 follows", x.member(4, 1), 7);
    }

    @Says(in = "Promise 5", value = "Returns the weight of the bloc of the other member then.")
    void followAnswersTheWeightWithTheNewFollower() {
        PivotChamber x = four();
        check.same("follow(3, 1)", x.follow(3, 1), 4);
        check.same("follow(0, 1)", x.follow(0, 1), 8);
        check.same("follow(2, 1)", x.follow(2, 1), 10);
        check.same("of no weights", chamber(1, 0, 0).follow(0, 1), 0);
        PivotChamber most = eight(1, 50);
        int answer = 0;
        for (int m = 0; m < 7; m++) {
            answer = most.follow(m, 7);
        }
        check.same("of all weights", answer, 400);
    }

    @Says(in = "Promise 5", value = "Throws `IndexOutOfBoundsException` if there is no such member")
    void followRefusesOtherMembers() {
        PivotChamber x = four();
        refusesEach("follow(m, 0)", x, PLACE, m -> x.follow(m, 0), NONE_OF_FOUR);
        refusesEach("follow(0, m)", x, PLACE, m -> x.follow(0, m), NONE_OF_FOUR);
        refusesEach("follow(m, m)", x, PLACE, m -> x.follow(m, m), NONE_OF_FOUR);
        PivotChamber full = eight(1, 1);
        refusesEach("follow(m, 0)", full, PLACE, m -> full.follow(m, 0), NONE_OF_EIGHT);
        refusesEach("follow(0, m)", full, PLACE, m -> full.follow(0, m), NONE_OF_EIGHT);
        PivotChamber none = new PivotChamber();
        check.refuses("follow(0, 0) of nobody", none, PLACE, () -> none.follow(0, 0));
        check.refuses("follow(0, 1) of nobody", none, PLACE, () -> none.follow(0, 1));
    }

    @Says(in = "Promise 5", value = "Throws `IllegalArgumentException` if both are the same")
    void followRefusesTheSame() {
        PivotChamber x = fourWithFollower();
        refusesEach("follow(m, m)", x, ARGUMENT, m -> x.follow(m, m), 0, 1, 2, 3);
    }

    @Says(in = "Promise 5", value = "Throws `IllegalStateException` if the member follows somebody")
    void followRefusesOneWhoFollows() {
        PivotChamber x = fourWithFollower();
        check.refuses("follow(3, 0)", x, STATE, () -> x.follow(3, 0));
        check.refuses("follow(3, 1), whom it follows", x, STATE, () -> x.follow(3, 1));
        x.leave(3);
        check.same("follow(3, 0) when it left", x.follow(3, 0), 5);
    }

    @Says(in = "Promise 5", value = "or is followed")
    void followRefusesOneWhoIsFollowed() {
        PivotChamber x = fourWithFollower();
        check.refuses("follow(1, 0)", x, STATE, () -> x.follow(1, 0));
        check.refuses("follow(1, 3), who follows it", x, STATE, () -> x.follow(1, 3));
        x.leave(3);
        check.same("follow(1, 0) when nobody follows it", x.follow(1, 0), 7);
        PivotChamber first = four();
        first.follow(3, 0);
        check.refuses("follow(0, 1)", first, STATE, () -> first.follow(0, 1));
    }

    @Says(in = "Promise 5", value = "or the other one follows somebody")
    void followRefusesToFollowOneWhoFollows() {
        PivotChamber x = fourWithFollower();
        check.refuses("follow(0, 3)", x, STATE, () -> x.follow(0, 3));
        x.leave(3);
        check.same("follow(0, 3) when it left", x.follow(0, 3), 5);
    }

    @Says(in = "Promise 6", value = "Lets a member follow nobody.")
    void afterLeaveOneFollowsNobody() {
        PivotChamber x = chamber(4, 4, 3, 2);
        x.follow(2, 1);
        x.follow(0, 1);
        x.leave(2);
        check.same("whom 2 follows", x.member(2, 1), NONE);
        check.same("whom 0 follows", x.member(0, 1), 1);
        check.same("how many follow 1", x.member(1, 2), 1);
        check.same("weight of the bloc", x.member(1, 3), 7);
        check.same("players", x.whole(1), 2);
        x.leave(0);
        check.same("players", x.whole(1), 3);
    }

    @Says(in = "Promise 6", value = "Undoable.")
    void leaveIsUndoable() {
        PivotChamber x = madeBy("add 4;add 3;follow 1 0;");
        x.leave(1);
        check.same("undo()", x.undo(), 1);
        check.same("whom 1 follows", x.member(1, 1), 0);
        check.same("leave(1) again", x.leave(1), 0);
    }

    @Says(in = "Promise 6", value = "`member`: number of a member")
    void theFirstAndTheLastMayLeave() {
        PivotChamber x = eight(1, 1);
        x.follow(0, 3);
        x.follow(7, 3);
        check.same("leave(0)", x.leave(0), 3);
        check.same("leave(7)", x.leave(7), 3);
        check.same("players", x.whole(1), 8);
    }

    @Says(in = "Promise 6", value = "Returns the member that it followed.")
    void leaveAnswersWhomItFollowed() {
        PivotChamber x = eight(1, 1);
        x.follow(3, 0);
        x.follow(4, 7);
        check.same("leave(3)", x.leave(3), 0);
        check.same("leave(4)", x.leave(4), 7);
    }

    @Says(in = "Promise 6", value = "Throws `IndexOutOfBoundsException` if there is no such member")
    void leaveRefusesOtherMembers() {
        PivotChamber x = fourWithFollower();
        refusesEach("leave(m)", x, PLACE, x::leave, NONE_OF_FOUR);
        PivotChamber full = eight(1, 1);
        refusesEach("leave(m)", full, PLACE, full::leave, NONE_OF_EIGHT);
        PivotChamber none = new PivotChamber();
        refusesEach("leave(m)", none, PLACE, none::leave, 0, -1);
    }

    @Says(in = "Promise 6", value = "Throws `IllegalStateException` if it follows nobody")
    void leaveRefusesOneWhoFollowsNobody() {
        PivotChamber x = fourWithFollower();
        refusesEach("leave(m)", x, STATE, x::leave, 0, 1, 2);
        x.leave(3);
        check.refuses("leave(3) again", x, STATE, () -> x.leave(3));
    }

    @Says(in = "Promise 7", value = "Adds a rule.")
    void aNewRuleCounts() {
        PivotChamber x = chamber(1, 1, 1);
        check.same("sets that win", x.whole(5), 3);
        x.addRule(1, 1);
        check.same("rules", x.whole(3), 1);
        check.same("sets that win", x.whole(5), 2);
        x.addRule(1, 0);
        check.same("rules", x.whole(3), 2);
        check.same("sets that win", x.whole(5), 1);
        x.addRule(1, 0);
        check.same("the same rule twice", x.whole(3), 3);
    }

    @Says(in = "Promise 7", value = "Undoable.")
    void addRuleIsUndoable() {
        PivotChamber x = madeBy("add 1;rule 1 1;");
        x.addRule(0, 2);
        check.same("undo()", x.undo(), 1);
        check.same("rules", x.whole(3), 1);
        check.same("kind of the one that is left", x.rule(0, 0), 1);
        check.same("the next one", x.addRule(2, 3), 1);
        check.same("its kind", x.rule(1, 0), 2);
        check.same("its value", x.rule(1, 1), 3);
    }

    @Says(in = "Promise 7", value = "`kind`: 0 to 2")
    void kindsGoFrom0To2() {
        PivotChamber x = new PivotChamber();
        for (int kind = 0; kind <= 2; kind++) {
            check.same("addRule(" + kind + ", 1)", x.addRule(kind, 1), kind);
            check.same("its kind", x.rule(kind, 0), kind);
        }
    }

    @Says(in = "Promise 7", value = "`value`: 1 to 8")
    void valuesOfKind0() {
        allowed(0, 1, 8);
    }

    @Says(in = "Promise 7", value = "0 to 7")
    void valuesOfKind1() {
        allowed(1, 0, 7);
    }

    @Says(in = "Promise 7", value = "or 1 to 255, by the kind")
    void valuesOfKind2() {
        allowed(2, 1, 255);
    }

    private void allowed(int kind, int from, int to) {
        for (int value = from; value <= to; value++) {
            PivotChamber x = new PivotChamber();
            check.same("addRule(" + kind + ", " + value + ")", x.addRule(kind, value), 0);
            check.same("its value", x.rule(0, 1), value);
        }
    }

    @Says(in = "Promise 7", value = "Returns the number of the rule.")
    void addRuleAnswers0To3() {
        PivotChamber x = new PivotChamber();
        for (int r = 0; r < 4; r++) {
            check.same("addRule(0, 1)", x.addRule(0, 1), r);
        }
        x.dropRule(0);
        check.same("addRule(0, 1) when one was dropped", x.addRule(0, 1), 3);
    }

    @Says(in = "Promise 7", value = "Throws `IllegalArgumentException` if an argument is out of range")
    void addRuleRefusesOtherArguments() {
        PivotChamber x = four();
        refusesEach("addRule(k, 1)", x, ARGUMENT, k -> x.addRule(k, 1), LEAST, -2, -1, 3, 4, 256, MOST);
        refusesEach("addRule(0, v)", x, ARGUMENT, v -> x.addRule(0, v), LEAST, -1, 0, 9, 10, 255, MOST);
        refusesEach("addRule(1, v)", x, ARGUMENT, v -> x.addRule(1, v), LEAST, -2, -1, 8, 9, 255, MOST);
        refusesEach("addRule(2, v)", x, ARGUMENT, v -> x.addRule(2, v), LEAST, -1, 0, 256, 257, 511, MOST);
        PivotChamber full = madeBy("rule 0 1;".repeat(4));
        refusesEach("addRule(k, 1) of a fifth", full, ARGUMENT, k -> full.addRule(k, 1), -1, 3);
        refusesEach("addRule(1, v) of a fifth", full, ARGUMENT, v -> full.addRule(1, v), -1, 8);
    }

    @Says(in = "Promise 7", value = "Throws `IllegalStateException` if there are 4 rules")
    void addRuleRefusesAFifth() {
        PivotChamber x = madeBy("rule 0 1;".repeat(3));
        check.same("a fourth", x.addRule(0, 8), 3);
        refusesEach("addRule(k, 1)", x, STATE, k -> x.addRule(k, 1), 0, 1, 2);
        x.dropRule(0);
        check.same("a fourth again", x.addRule(2, 255), 3);
        check.refuses("a fifth again", x, STATE, () -> x.addRule(2, 255));
    }

    @Says(in = "Promise 8", value = "Removes a rule;")
    void aRemovedRuleCountsNoMore() {
        PivotChamber x = chamber(1, 1, 1);
        x.addRule(0, 2);
        x.addRule(1, 0);
        check.same("sets that win", x.whole(5), 1);
        check.same("dropRule(0)", x.dropRule(0), 1);
        check.same("sets that win", x.whole(5), 2);
        check.same("dropRule(0) of the only one", x.dropRule(0), 0);
        check.same("sets that win", x.whole(5), 3);
        check.refuses("rule(0, 0)", x, PLACE, () -> x.rule(0, 0));
    }

    @Says(in = "Promise 8", value = "the numbers of those behind it decrease by 1.")
    void rulesBehindTheDroppedOneMoveUp() {
        dropped(0, 12, 13, 14);
        dropped(1, 11, 13, 14);
        dropped(2, 11, 12, 14);
        dropped(3, 11, 12, 13);
    }

    private void dropped(int rule, int... due) {
        PivotChamber x = madeBy("rule 2 11;rule 2 12;rule 2 13;rule 2 14;");
        check.same("dropRule(" + rule + ")", x.dropRule(rule), 3);
        for (int r = 0; r < due.length; r++) {
            check.same("value of " + r, x.rule(r, 1), due[r]);
        }
        check.refuses("rule(3, 0)", x, PLACE, () -> x.rule(3, 0));
        check.same("addRule(1, 7) behind them", x.addRule(1, 7), 3);
        check.same("its kind", x.rule(3, 0), 1);
        check.same("kind before it", x.rule(2, 0), 2);
    }

    @Says(in = "Promise 8", value = "Undoable.")
    void dropRuleIsUndoable() {
        PivotChamber x = madeBy("rule 0 1;rule 1 2;rule 2 3;");
        x.dropRule(0);
        check.same("undo()", x.undo(), 1);
        check.same("rules", x.whole(3), 3);
        for (int r = 0; r < 3; r++) {
            check.same("kind of " + r, x.rule(r, 0), r);
            check.same("value of " + r, x.rule(r, 1), r + 1);
        }
    }

    @Says(in = "Promise 8", value = "`rule`: number of a rule")
    void theFirstAndTheLastMayBeDropped() {
        check.same("dropRule(0)", madeBy("rule 0 1;".repeat(4)).dropRule(0), 3);
        check.same("dropRule(3)", madeBy("rule 0 1;".repeat(4)).dropRule(3), 3);
    }

    @Says(in = "Promise 8", value = "Returns the number of rules that are left.")
    void dropRuleAnswers3To0() {
        PivotChamber x = madeBy("rule 0 1;".repeat(4));
        for (int left = 3; left >= 0; left--) {
            check.same("dropRule()", x.dropRule(left % 2 == 0 ? 0 : left), left);
        }
    }

    @Says(in = "Promise 8", value = "Throws `IndexOutOfBoundsException` if there is no such rule")
    void dropRuleRefusesOtherRules() {
        PivotChamber x = madeBy("rule 0 1;".repeat(4));
        refusesEach("dropRule(r)", x, PLACE, x::dropRule, NONE_OF_FOUR);
        x.dropRule(3);
        check.refuses("dropRule(3) of three", x, PLACE, () -> x.dropRule(3));
        PivotChamber none = four();
        refusesEach("dropRule(r) of none", none, PLACE, none::dropRule, 0, -1, 1);
    }
}
