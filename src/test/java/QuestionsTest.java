import java.util.function.IntBinaryOperator;

/** One test for each sentence of the promises 16 to 23: reasons, pivots of orders, and what-if questions. */
public final class QuestionsTest extends ChamberTests {
    public static void main(String[] args) {
        new QuestionsTest().runAll();
    }

    @Says(in = "Promise 16", value = "Tells why a set does not win.")
    void reasonsOfEachSet() {
        PivotChamber x = four();
        x.addRule(0, 3);
        int[] due = {1, 1, 1, 2, 1, 2, 1, 0, 1, 1, 1, 0, 1, 0, 0, 0};
        for (int set = 0; set < due.length; set++) {
            check.same("reason(" + set + ")", x.reason(set), due[set]);
        }
    }

    @Says(in = "Promise 16", value = "`set`: a set of members, 0 to 255")
    void reasonsOfSetsFrom0To255() {
        PivotChamber x = eight(4, 1);
        for (int set = 0; set <= 255; set++) {
            check.same("reason(" + set + ")", x.reason(set), Integer.bitCount(set) >= 4 ? 0 : 1);
        }
        check.same("reason(0) of nobody", new PivotChamber().reason(0), 1);
    }

    @Says(in = "Promise 16", value = "Returns 0 it wins;")
    void reasonIs0IfItWins() {
        PivotChamber x = four();
        check.same("reason(5) with the quota itself", x.reason(5), 0);
        check.same("reason(15)", x.reason(15), 0);
        x.addRule(0, 2);
        x.addRule(1, 2);
        x.addRule(2, 4);
        x.addRule(0, 1);
        check.same("reason(5), which all rules allow", x.reason(5), 0);
    }

    @Says(in = "Promise 16", value = "1 the quota is not reached;")
    void reasonIs1EvenIfRulesAreBrokenToo() {
        PivotChamber x = four();
        check.same("reason(9) with one less than the quota", x.reason(9), 1);
        x.addRule(0, 8);
        x.addRule(1, 7);
        check.same("reason(9) with broken rules", x.reason(9), 1);
        check.same("reason(0)", x.reason(0), 1);
        x.setQuota(5);
        check.same("reason(9) when the quota is reached", x.reason(9), 2);
        x.setQuota(1);
        check.same("reason(0) by the quota 1", x.reason(0), 1);
    }

    @Says(in = "Promise 16", value = "otherwise 2 + the number of the first rule that does not hold.")
    void reasonIs2To5ByTheFirstBrokenRule() {
        PivotChamber x = chamber(1, 1, 1, 1, 1, 1);
        for (int r = 0; r < 4; r++) {
            x.addRule(1, r);
        }
        check.same("reason(30), without 0", x.reason(30), 2);
        check.same("reason(29), without 1", x.reason(29), 3);
        check.same("reason(27), without 2", x.reason(27), 4);
        check.same("reason(23), without 3", x.reason(23), 5);
        check.same("reason(21), without 1 and 3", x.reason(21), 3);
        check.same("reason(16), without all of them", x.reason(16), 2);
        check.same("reason(15)", x.reason(15), 0);
        x.dropRule(0);
        check.same("reason(29) when a rule was dropped", x.reason(29), 2);
        check.same("reason(23) when a rule was dropped", x.reason(23), 4);
    }

    @Says(in = "Promise 16", value = "Throws `IllegalArgumentException` if set is out of range, or has a member "
            + "that there is not")
    void reasonRefusesOtherSets() {
        PivotChamber x = four();
        refusesEach("reason(set)", x, ARGUMENT, x::reason, LEAST, -256, -1, 16, 17, 31, 32, 128, 255, 256, 271, MOST);
        PivotChamber full = eight(4, 1);
        refusesEach("reason(set) of eight", full, ARGUMENT, full::reason, LEAST, -1, 256, 511, MOST);
        PivotChamber none = new PivotChamber();
        refusesEach("reason(set) of nobody", none, ARGUMENT, none::reason, -1, 1, 255, 256);
        check.same("a follower is a member", fourWithFollower().reason(8), 1);
    }

    @Says(in = "Promise 17", value = "Returns the pivot of an order of players.")
    void pivotsOfOrders() {
        PivotChamber x = four();
        check.same("pivot(1234)", x.pivot(1234), 1);
        check.same("pivot(2143)", x.pivot(2143), 0);
        check.same("pivot(3412)", x.pivot(3412), 0);
        check.same("pivot(4321)", x.pivot(4321), 1);
        check.same("pivot(4132)", x.pivot(4132), 2);
        check.same("pivot(2341)", x.pivot(2341), 3);
    }

    @Says(in = "Promise 17", value = "`order`: a number whose decimal digits, from the first on")
    void theFirstDigitSaysYesFirst() {
        PivotChamber x = chamber(1, 1, 1, 1, 1, 1, 1, 1, 1);
        check.same("pivot(12345678)", x.pivot(12345678), 0);
        check.same("pivot(87654321)", x.pivot(87654321), 7);
        x.setQuota(8);
        check.same("pivot(12345678) by all", x.pivot(12345678), 7);
        check.same("pivot(87654321) by all", x.pivot(87654321), 0);
        check.same("pivot(1) of one alone", chamber(1, 1).pivot(1), 0);
    }

    @Says(in = "Promise 17", value = "are the numbers of all players, each once, each plus 1")
    void theDigitsAreThePlayersPlus1() {
        PivotChamber x = fourWithFollower();
        x.setQuota(2);
        check.same("pivot(123), without the follower", x.pivot(123), 0);
        check.same("pivot(321)", x.pivot(321), 2);
        PivotChamber last = chamber(1, 1, 1, 1, 1, 1, 1, 1, 1);
        for (int m = 0; m < 7; m++) {
            last.follow(m, 7);
        }
        check.same("pivot(8), where 7 alone is a player", last.pivot(8), 7);
    }

    @Says(in = "Promise 17", value = "Returns the pivot;")
    void eachPlaceMayHaveThePivot() {
        PivotChamber x = chamber(1, 1, 1, 1, 1);
        for (int quota = 1; quota <= 4; quota++) {
            x.setQuota(quota);
            check.same("pivot(1234) by " + quota, x.pivot(1234), quota - 1);
            check.same("pivot(4321) by " + quota, x.pivot(4321), 4 - quota);
        }
    }

    @Says(in = "Promise 17", value = "NONE if all together do not win")
    void pivotIsNoneIfAllDoNotWin() {
        PivotChamber x = four();
        x.setQuota(10);
        check.same("pivot(1234) with the quota itself", x.pivot(1234), 3);
        x.setQuota(11);
        check.same("pivot(1234)", x.pivot(1234), NONE);
        check.same("pivot(4321)", x.pivot(4321), NONE);
        x.setQuota(1);
        x.addRule(0, 5);
        check.same("pivot(1234) against a rule", x.pivot(1234), NONE);
        check.same("pivot(1) without weight", chamber(1, 0).pivot(1), NONE);
    }

    @Says(in = "Promise 17", value = "or there are no players (then order is 0).")
    void pivotIsNoneWithoutPlayers() {
        PivotChamber x = new PivotChamber();
        check.same("pivot(0)", x.pivot(0), NONE);
        refusesEach("pivot(order)", x, ARGUMENT, x::pivot, LEAST, -1, 1, 8, 9, 10, 12345678, MOST);
        x.add(1);
        check.refuses("pivot(0) when there is one", x, ARGUMENT, () -> x.pivot(0));
    }

    @Says(in = "Promise 17", value = "Throws `IllegalArgumentException` if order is no such number")
    void pivotRefusesOtherOrders() {
        PivotChamber x = four();
        // One missing, one too many, one twice, a digit of nobody, and numbers far away.
        refusesEach("pivot(order)", x, ARGUMENT, x::pivot, 123, 234, 12345, 11234, 12344, 1233, 1123, 4444, 1230, 1204,
                10234, 1235, 5234, 9234, 1239, 12340, 0, 1, -1, -1234, LEAST, MOST, 12341234, 1234567891);
        PivotChamber withFollower = fourWithFollower();
        refusesEach("pivot(order) with a follower", withFollower, ARGUMENT, withFollower::pivot, 1234, 4, 124, 12,
                1223);
        PivotChamber full = eight(4, 1);
        refusesEach("pivot(order) of eight", full, ARGUMENT, full::pivot, 1234567, 123456789, 12345679, 11234567,
                87654322, 2345678, 1876543210, 1123456781, -12345678, LEAST, MOST);
        PivotChamber none = eight(400, 0);
        check.refuses("pivot(1) though nothing wins", none, ARGUMENT, () -> none.pivot(1));
    }

    @Says(in = "Promise 18", value = "Returns the swings that a member would have with another quota.")
    void swingsWithEachQuota() {
        PivotChamber x = four();
        int[] due = {1, 2, 3, 5, 5, 5, 5, 3, 2, 1, 0};
        for (int quota = 1; quota <= due.length; quota++) {
            check.same("swingsWith(0, " + quota + ")", x.swingsWith(0, quota), due[quota - 1]);
        }
        check.same("quota as before", x.whole(2), 6);
    }

    @Says(in = "Promise 18", value = "`member`: number of a member")
    void swingsWithOfTheFirstAndTheLast() {
        PivotChamber x = chamber(400, 1, 0, 0, 0, 0, 0, 0, 2);
        check.same("swingsWith(0, 1)", x.swingsWith(0, 1), 64);
        check.same("swingsWith(7, 1)", x.swingsWith(7, 1), 64);
        check.same("swingsWith(0, 2)", x.swingsWith(0, 2), 0);
        check.same("swingsWith(7, 2)", x.swingsWith(7, 2), 128);
        check.same("swingsWith(0, 3)", x.swingsWith(0, 3), 64);
    }

    @Says(in = "Promise 18", value = "`quota`: 1 to 400")
    void swingsWithQuotas1To400() {
        PivotChamber x = eight(7, 50);
        for (int quota = 1; quota <= 400; quota++) {
            int others = (quota - 1) / 50;
            int[] due = {1, 7, 21, 35, 35, 21, 7, 1};
            check.same("swingsWith(3, " + quota + ")", x.swingsWith(3, quota), due[others]);
        }
    }

    @Says(in = "Promise 18", value = "Returns the swings.")
    void swingsWithARuleAndAFollower() {
        PivotChamber x = fourWithFollower();
        check.same("swingsWith(3, 1), who is no player", x.swingsWith(3, 1), 0);
        check.same("swingsWith(1, 4)", x.swingsWith(1, 4), 2);
        check.same("swingsWith(1, 6), as it is", x.swingsWith(1, 6), x.member(1, 4));
        x.addRule(0, 4);
        check.same("swingsWith(2, 1) by a rule", x.swingsWith(2, 1), 1);
        check.same("swingsWith(2, 11)", x.swingsWith(2, 11), 0);
        check.same("rules as before", x.whole(3), 1);
    }

    @Says(in = "Promise 18", value = "Throws `IndexOutOfBoundsException` if there is no such member")
    void swingsWithRefusesOtherMembers() {
        PivotChamber x = four();
        refusesEach("swingsWith(m, 1)", x, PLACE, m -> x.swingsWith(m, 1), NONE_OF_FOUR);
        refusesEach("swingsWith(m, 0)", x, PLACE, m -> x.swingsWith(m, 0), NONE_OF_FOUR);
        PivotChamber full = eight(1, 1);
        refusesEach("swingsWith(m, 400)", full, PLACE, m -> full.swingsWith(m, 400), NONE_OF_EIGHT);
        PivotChamber none = new PivotChamber();
        refusesEach("swingsWith(m, 1) of nobody", none, PLACE, m -> none.swingsWith(m, 1), 0, -1);
    }

    @Says(in = "Promise 18", value = "Throws `IllegalArgumentException` if quota is out of range")
    void swingsWithRefusesOtherQuotas() {
        PivotChamber x = fourWithFollower();
        refusesEach("swingsWith(0, q)", x, ARGUMENT, q -> x.swingsWith(0, q), NO_QUOTAS);
        refusesEach("swingsWith(3, q)", x, ARGUMENT, q -> x.swingsWith(3, q), NO_QUOTAS);
    }

    private void best(PivotChamber x, int... due) {
        for (int m = 0; m < due.length; m++) {
            check.same("bestQuota(" + m + ")", x.bestQuota(m), due[m]);
        }
    }

    @Says(in = "Promise 19", value = "Finds the quota by which the share of a player would be greatest")
    void bestQuotasOfFour() {
        PivotChamber x = four();
        best(x, 4, 3, 2, 1);
        check.same("quota as before", x.whole(2), 6);
        x.addRule(1, 0);
        best(x, 1, 8, 9, 10);
        x.addRule(1, 3);
        best(x, 1, 8, 9, 1);
    }

    @Says(in = "Promise 19", value = "of 1 up to the sum of all weights")
    void theBestQuotaMayBe1OrTheSum() {
        best(chamber(400, 50, 49), 50, 1);
        PivotChamber sum = chamber(400, 1, 1);
        sum.addRule(1, 0);
        best(sum, 1, 2);
        PivotChamber three = chamber(400, 1, 1, 1);
        three.addRule(1, 0);
        best(three, 1, 3, 3);
        best(eight(1, 50), 1, 1, 1, 1, 1, 1, 1, 1);
        PivotChamber most = eight(1, 50);
        most.addRule(1, 0);
        best(most, 1, 351, 351, 351, 351, 351, 351, 351);
        // A follower's weight belongs to the sum too.
        PivotChamber follower = chamber(1, 1, 0, 50);
        follower.follow(2, 1);
        best(follower, 1, 2, NONE);
        follower.addRule(1, 1);
        best(follower, 51, 1, NONE);
    }

    @Says(in = "Promise 19", value = "shares are compared exactly, as fractions")
    void nearSharesAreToldApart() {
        // By 10 the share of 1 is 17 / 52, by 12 it is 19 / 58, which is greater by less than a thousandth.
        PivotChamber x = chamber(1, 4, 7, 5, 3, 3, 2);
        check.same("swingsWith(1, 10)", x.swingsWith(1, 10), 17);
        check.same("swingsWith(1, 12)", x.swingsWith(1, 12), 19);
        check.same("bestQuota(1)", x.bestQuota(1), 12);
        // By 2 it has 2 of 6 swings, by 6 it has 4 of 12: the same share.
        PivotChamber even = chamber(1, 4, 1, 3, 3);
        check.same("swingsWith(2, 2)", even.swingsWith(2, 2), 2);
        check.same("swingsWith(2, 6)", even.swingsWith(2, 6), 4);
        check.same("bestQuota(2)", even.bestQuota(2), 2);
    }

    @Says(in = "Promise 19", value = "`member`: number of a member")
    void bestQuotaOfTheFirstAndTheLast() {
        best(chamber(7, 2, 0, 0, 0, 0, 0, 0, 1), 2, NONE, NONE, NONE, NONE, NONE, NONE, 1);
        best(chamber(7, 1, 0, 0, 0, 0, 0, 0, 2), 1, NONE, NONE, NONE, NONE, NONE, NONE, 2);
    }

    @Says(in = "Promise 19", value = "Returns the quota, of several the least one;")
    void ofSeveralTheLeastOne() {
        best(chamber(9, 2, 2), 1, 1);
        best(chamber(9, 50), 1);
        best(chamber(9, 50, 1), 2, 1);
        PivotChamber x = chamber(9, 3, 3);
        x.addRule(0, 2);
        best(x, 1, 1);
    }

    @Says(in = "Promise 19", value = "NONE if by each of them it would have no swings.")
    void noBestQuotaWithoutSwings() {
        best(chamber(1, 0, 3), NONE, 1);
        best(chamber(1, 0, 0), NONE, NONE);
        PivotChamber x = fourWithFollower();
        check.same("bestQuota(3), who is no player", x.bestQuota(3), NONE);
        x.addRule(1, 7);
        best(x, NONE, NONE, NONE, NONE);
        PivotChamber byRule = chamber(1, 0, 3);
        byRule.addRule(1, 0);
        best(byRule, 1, 1);
    }

    @Says(in = "Promise 19", value = "Throws `IndexOutOfBoundsException` if there is no such member")
    void bestQuotaRefusesOtherMembers() {
        PivotChamber x = four();
        refusesEach("bestQuota(m)", x, PLACE, x::bestQuota, NONE_OF_FOUR);
        PivotChamber full = eight(1, 1);
        refusesEach("bestQuota(m)", full, PLACE, full::bestQuota, NONE_OF_EIGHT);
        PivotChamber none = new PivotChamber();
        refusesEach("bestQuota(m) of nobody", none, PLACE, none::bestQuota, 0, -1);
    }

    @Says(in = "Promise 20", value = "Returns the dummies that there would be with another quota.")
    void dummiesWithEachQuota() {
        PivotChamber x = twoAndDummy();
        int[] due = {0, 4, 4, 4, 4, 0, 4, 4, 4, 4, 0, 7};
        for (int quota = 1; quota <= due.length; quota++) {
            check.same("dummiesWith(" + quota + ")", x.dummiesWith(quota), due[quota - 1]);
        }
        check.same("quota as before", x.whole(2), 10);
    }

    @Says(in = "Promise 20", value = "`quota`: 1 to 400")
    void dummiesWithQuotas1To400() {
        PivotChamber x = eight(7, 50);
        x.setWeight(7, 49);
        check.same("dummiesWith(1)", x.dummiesWith(1), 0);
        check.same("dummiesWith(50)", x.dummiesWith(50), 128);
        check.same("dummiesWith(399)", x.dummiesWith(399), 0);
        check.same("dummiesWith(400)", x.dummiesWith(400), 255);
        x.setWeight(7, 50);
        check.same("dummiesWith(400) when it is the sum", x.dummiesWith(400), 0);
    }

    @Says(in = "Promise 20", value = "Returns the set.")
    void dummiesWithAnswersASetOfPlayers() {
        check.same("of nobody", new PivotChamber().dummiesWith(1), 0);
        check.same("players alone", fourWithFollower().dummiesWith(400), 7);
        check.same("all of eight", eight(1, 0).dummiesWith(1), 255);
        PivotChamber x = chamber(1, 1, 0);
        x.addRule(0, 2);
        check.same("by a rule", x.dummiesWith(1), 0);
        check.same("when the quota is too great", x.dummiesWith(2), 3);
    }

    @Says(in = "Promise 20", value = "Throws `IllegalArgumentException` if quota is out of range")
    void dummiesWithRefusesOtherQuotas() {
        PivotChamber x = four();
        refusesEach("dummiesWith(q)", x, ARGUMENT, x::dummiesWith, NO_QUOTAS);
        PivotChamber none = new PivotChamber();
        refusesEach("dummiesWith(q) of nobody", none, ARGUMENT, none::dummiesWith, NO_QUOTAS);
    }

    private void leastWeights(PivotChamber x, int... due) {
        for (int m = 0; m < due.length; m++) {
            check.same("leastWeight(" + m + ")", x.leastWeight(m), due[m]);
        }
    }

    @Says(in = "Promise 21", value = "Returns the least weight by which a player would be no dummy, all else as "
            + "it is.")
    void leastWeightsAllElseAsItIs() {
        PivotChamber x = twoAndDummy();
        leastWeights(x, 4, 4, 5);
        check.same("weight as before", x.member(2, 0), 1);
        check.same("quota as before", x.whole(2), 10);
        x.follow(2, 0);
        leastWeights(x, 4, 4, NONE);
        x.setWeight(2, 4);
        leastWeights(x, 1, 1, NONE);
        x.addRule(0, 3);
        leastWeights(x, 1, 1, NONE);
        x.setQuota(9);
        leastWeights(x, 0, 0, NONE);
    }

    @Says(in = "Promise 21", value = "`member`: number of a member")
    void leastWeightOfTheFirstAndTheLast() {
        PivotChamber x = chamber(5, 3, 0, 0, 0, 0, 0, 0, 4);
        check.same("leastWeight(0)", x.leastWeight(0), 1);
        check.same("leastWeight(3)", x.leastWeight(3), 1);
        check.same("leastWeight(7)", x.leastWeight(7), 2);
    }

    @Says(in = "Promise 21", value = "Returns the weight, 0 to 50;")
    void leastWeightsFrom0To50() {
        leastWeights(chamber(50, 0), 50);
        leastWeights(chamber(50, 50), 50);
        leastWeights(chamber(1, 0), 1);
        PivotChamber needed = chamber(1, 7, 1);
        needed.addRule(1, 0);
        leastWeights(needed, 0, NONE);
        needed.setWeight(1, 50);
        leastWeights(needed, 0, NONE);
        PivotChamber followed = chamber(60, 0, 10);
        followed.follow(1, 0);
        leastWeights(followed, 50, NONE);
        followed.setWeight(1, 50);
        followed.setQuota(50);
        leastWeights(followed, 0, NONE);
        leastWeights(chamber(4, 0, 0, 0, 3), 1, 1, 1, 4);
    }

    @Says(in = "Promise 21", value = "NONE if there is none")
    void leastWeightIsNoneIfNoWeightIsEnough() {
        leastWeights(chamber(51, 50), NONE);
        leastWeights(chamber(51, 50, 0), NONE, 1);
        leastWeights(chamber(51, 1, 0), NONE, 50);
        PivotChamber never = chamber(1, 1, 1);
        never.addRule(1, 7);
        leastWeights(never, NONE, NONE);
        PivotChamber spared = chamber(1, 0, 1);
        spared.addRule(1, 1);
        leastWeights(spared, NONE, 1);
    }

    @Says(in = "Promise 21", value = "or it is no player.")
    void leastWeightIsNoneForFollowers() {
        PivotChamber x = chamber(1, 1, 0);
        x.follow(1, 0);
        leastWeights(x, 1, NONE);
        x.addRule(1, 1);
        leastWeights(x, 1, NONE);
        x.leave(1);
        leastWeights(x, 1, 0);
    }

    @Says(in = "Promise 21", value = "Throws `IndexOutOfBoundsException` if there is no such member")
    void leastWeightRefusesOtherMembers() {
        PivotChamber x = four();
        refusesEach("leastWeight(m)", x, PLACE, x::leastWeight, NONE_OF_FOUR);
        PivotChamber full = eight(1, 1);
        refusesEach("leastWeight(m)", full, PLACE, full::leastWeight, NONE_OF_EIGHT);
        PivotChamber none = new PivotChamber();
        refusesEach("leastWeight(m) of nobody", none, PLACE, none::leastWeight, 0, -1);
    }

    @Says(in = "Promise 22", value = "Tells by how much the part of a player would be greater, if another "
            + "player and all of its bloc followed it, than the sum of both parts now.")
    void aUnionTakesTheWholeBloc() {
        PivotChamber x = four();
        check.same("a gain", x.unionGain(0, 1), 1.0 - (10.0 / 24.0 + 0.25));
        check.same("none", x.unionGain(3, 2), 2.0 / 6.0 - (2.0 / 24.0 + 0.25));
        check.same("a loss", chamber(3, 1, 1, 1).unionGain(0, 1), 0.5 - (2.0 / 6.0 + 2.0 / 6.0));
        x.follow(3, 1);
        check.same("with one who is followed", x.unionGain(2, 1), 1.0 - (2.0 / 6.0 + 2.0 / 6.0));
        PivotChamber blocs = chamber(5, 2, 1, 1, 1, 2, 2);
        blocs.follow(2, 1);
        blocs.follow(3, 1);
        check.same("with a bloc of three", blocs.unionGain(0, 1), 1.0 - (4.0 / 24.0 + 0.5));
        check.same("with one who has a bloc of three", blocs.unionGain(1, 0), 1.0 - (4.0 / 24.0 + 0.5));
        check.same("whom 2 follows", blocs.member(2, 1), 1);
        check.same("players as before", blocs.whole(1), 4);
    }

    @Says(in = "Promise 22", value = "`member`: number of a member")
    void unionGainOfTheFirstAndTheLast() {
        PivotChamber x = eight(8, 1);
        check.same("unionGain(0, 3)", x.unionGain(0, 3), 720.0 / 5040.0 - (5040.0 / 40320.0 + 5040.0 / 40320.0));
        check.same("unionGain(7, 3)", x.unionGain(7, 3), 720.0 / 5040.0 - (5040.0 / 40320.0 + 5040.0 / 40320.0));
    }

    @Says(in = "Promise 22", value = "`other`: number of another member")
    void unionGainWithTheFirstAndTheLast() {
        PivotChamber x = eight(1, 1);
        check.same("unionGain(3, 0)", x.unionGain(3, 0), 720.0 / 5040.0 - (5040.0 / 40320.0 + 5040.0 / 40320.0));
        check.same("unionGain(3, 7)", x.unionGain(3, 7), 720.0 / 5040.0 - (5040.0 / 40320.0 + 5040.0 / 40320.0));
        check.same("unionGain(0, 1) of two", chamber(2, 1, 1).unionGain(0, 1), 1.0 - (0.5 + 0.5));
        check.same("unionGain(1, 0) when nothing wins", chamber(9, 1, 1).unionGain(1, 0), 0.0);
    }

    @Says(in = "Promise 22", value = "Returns that part minus (the part of the member + the part of the other "
            + "one), in double arithmetic.")
    void theSumIsTakenFirst() {
        double third = 2.0 / 6.0;
        double due = 1.0 - (third + third);
        check.holds("another order of the operations answers otherwise", due != 1.0 - third - third);
        check.same("unionGain(0, 1)", chamber(2, 1, 1, 1).unionGain(0, 1), due);
        check.same("unionGain(2, 0)", chamber(2, 1, 1, 1).unionGain(2, 0), due);
    }

    private void refusesPairs(String name, PivotChamber x, IntBinaryOperator call) {
        refusesEach(name + "(m, 0)", x, PLACE, m -> call.applyAsInt(m, 0), NONE_OF_FOUR);
        refusesEach(name + "(0, m)", x, PLACE, m -> call.applyAsInt(0, m), NONE_OF_FOUR);
        refusesEach(name + "(3, m)", x, PLACE, m -> call.applyAsInt(3, m), NONE_OF_FOUR);
        refusesEach(name + "(m, m)", x, PLACE, m -> call.applyAsInt(m, m), NONE_OF_FOUR);
    }

    @Says(in = "Promise 22", value = "Throws `IndexOutOfBoundsException` if there is no such member")
    void unionGainRefusesOtherMembers() {
        PivotChamber x = fourWithFollower();
        refusesPairs("unionGain", x, (m, other) -> (int) x.unionGain(m, other));
        PivotChamber full = eight(1, 1);
        refusesEach("unionGain(m, 0)", full, PLACE, m -> (int) full.unionGain(m, 0), NONE_OF_EIGHT);
        PivotChamber none = new PivotChamber();
        check.refuses("unionGain(0, 0) of nobody", none, PLACE, () -> none.unionGain(0, 0));
        check.refuses("unionGain(0, 1) of nobody", none, PLACE, () -> none.unionGain(0, 1));
    }

    @Says(in = "Promise 22", value = "Throws `IllegalArgumentException` if both are the same")
    void unionGainRefusesTheSame() {
        PivotChamber x = four();
        refusesEach("unionGain(m, m)", x, ARGUMENT, m -> (int) x.unionGain(m, m), 0, 1, 2, 3);
    }

    @Says(in = "Promise 22", value = "or one is no player")
    void unionGainRefusesFollowers() {
        PivotChamber x = fourWithFollower();
        check.refuses("unionGain(0, 3)", x, ARGUMENT, () -> x.unionGain(0, 3));
        check.refuses("unionGain(3, 0)", x, ARGUMENT, () -> x.unionGain(3, 0));
        check.refuses("unionGain(1, 3), who follows it", x, ARGUMENT, () -> x.unionGain(1, 3));
        check.refuses("unionGain(3, 1)", x, ARGUMENT, () -> x.unionGain(3, 1));
        x.follow(2, 1);
        check.refuses("unionGain(2, 3), both followers", x, ARGUMENT, () -> x.unionGain(2, 3));
        check.same("unionGain(0, 1), who is followed", x.unionGain(0, 1), 1.0 - (0.0 + 1.0));
    }

    private void stands(PivotChamber x, int member, int other, int due, int dueBack) {
        check.same("compare(" + member + ", " + other + ")", x.compare(member, other), due);
        check.same("compare(" + other + ", " + member + ")", x.compare(other, member), dueBack);
    }

    @Says(in = "Promise 23", value = "Tells how two players stand to each other.")
    void allPairsOfFour() {
        PivotChamber x = four();
        stands(x, 0, 1, 1, -1);
        stands(x, 0, 2, 1, -1);
        stands(x, 0, 3, 1, -1);
        stands(x, 1, 2, 0, 0);
        stands(x, 1, 3, 1, -1);
        stands(x, 2, 3, 1, -1);
    }

    @Says(in = "Promise 23", value = "`member`: number of a member")
    void theFirstStandsToTheLast() {
        stands(chamber(2, 2, 0, 0, 0, 0, 0, 0, 1), 0, 7, 1, -1);
        stands(chamber(2, 1, 0, 0, 0, 0, 0, 0, 2), 0, 7, -1, 1);
    }

    @Says(in = "Promise 23", value = "`other`: number of another member")
    void neighboursStandToEachOther() {
        stands(chamber(2, 2, 1), 0, 1, 1, -1);
        stands(chamber(2, 0, 0, 0, 0, 0, 0, 2, 1), 6, 7, 1, -1);
    }

    @Says(in = "Promise 23", value = "Returns 0 if they stand alike;")
    void compareIs0() {
        stands(chamber(3, 2, 2, 1), 0, 1, 0, 0);
        stands(chamber(1, 50, 1, 1), 0, 1, 0, 0);
        stands(chamber(5, 5, 1, 0), 1, 2, 0, 0);
        stands(chamber(400, 50, 0), 0, 1, 0, 0);
    }

    @Says(in = "Promise 23", value = "1 if the member stands above the other one: for no set that contains "
            + "neither of them, the set with the other one wins and the set with the member does not;")
    void compareIs1() {
        check.same("by weight", chamber(3, 2, 1, 1).compare(0, 1), 1);
        check.same("by the empty set alone", chamber(5, 5, 4, 5).compare(0, 1), 1);
        check.same("by all others alone", chamber(7, 2, 1, 5).compare(0, 1), 1);
        PivotChamber x = chamber(1, 1, 50, 50);
        x.addRule(1, 0);
        check.same("by a rule, against the weights", x.compare(0, 1), 1);
        PivotChamber y = fourWithFollower();
        y.setQuota(4);
        y.addRule(1, 3);
        check.same("by a rule for a follower", y.compare(1, 0), 1);
    }

    @Says(in = "Promise 23", value = "-1 likewise the other way round;")
    void compareIsMinus1() {
        check.same("by weight", chamber(3, 1, 2, 1).compare(0, 1), -1);
        check.same("by the empty set alone", chamber(5, 4, 5, 5).compare(0, 1), -1);
        check.same("by all others alone", chamber(7, 1, 2, 5).compare(0, 1), -1);
    }

    @Says(in = "Promise 23", value = "2 if none of these.")
    void compareIs2() {
        PivotChamber x = chamber(5, 5, 1, 1, 4, 0, 0);
        x.follow(2, 1);
        x.addRule(0, 3);
        stands(x, 0, 1, 2, 2);
        PivotChamber y = chamber(4, 3, 1, 1, 3);
        y.addRule(2, 6);
        stands(y, 0, 1, 2, 2);
    }

    @Says(in = "Promise 23", value = "Throws `IndexOutOfBoundsException` if there is no such member")
    void compareRefusesOtherMembers() {
        PivotChamber x = fourWithFollower();
        refusesPairs("compare", x, x::compare);
        PivotChamber full = eight(1, 1);
        refusesEach("compare(m, 0)", full, PLACE, m -> full.compare(m, 0), NONE_OF_EIGHT);
        PivotChamber none = new PivotChamber();
        check.refuses("compare(0, 0) of nobody", none, PLACE, () -> none.compare(0, 0));
        check.refuses("compare(0, 1) of nobody", none, PLACE, () -> none.compare(0, 1));
    }

    @Says(in = "Promise 23", value = "Throws `IllegalArgumentException` if both are the same")
    void compareRefusesTheSame() {
        PivotChamber x = four();
        refusesEach("compare(m, m)", x, ARGUMENT, m -> x.compare(m, m), 0, 1, 2, 3);
    }

    @Says(in = "Promise 23", value = "or one is no player")
    void compareRefusesFollowers() {
        PivotChamber x = fourWithFollower();
        check.refuses("compare(0, 3)", x, ARGUMENT, () -> x.compare(0, 3));
        check.refuses("compare(3, 0)", x, ARGUMENT, () -> x.compare(3, 0));
        check.refuses("compare(1, 3), who follows it", x, ARGUMENT, () -> x.compare(1, 3));
        x.follow(2, 1);
        check.refuses("compare(2, 3), both followers", x, ARGUMENT, () -> x.compare(2, 3));
        check.same("compare(0, 1), who is followed", x.compare(0, 1), -1);
    }
}
