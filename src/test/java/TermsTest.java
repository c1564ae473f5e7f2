import java.lang.reflect.Method;
import java.lang.reflect.Modifier;
import java.util.Arrays;
import java.util.function.Consumer;

/** One test for each sentence of the document's "Terms" (but texts, undo and exceptions), and of "What it is". */
public final class TermsTest extends ChamberTests {
    public static void main(String[] args) {
        new TermsTest().runAll();
    }

    @Says(in = "What it is", value = "An object is used for at most 512 calls after it has been made")
    void the512thCallIsAnsweredAsTheFirst() {
        PivotChamber x = new PivotChamber();
        for (int call = 1; call <= 511; call++) {
            x.setQuota(1 + call % 400);
        }
        check.same("the 512th call", x.setQuota(400), 1 + 511 % 400);
    }

    @Says(in = "Terms", value = "All numbers but shares are whole.")
    void sharesAloneAreNoWholeNumbers() {
        for (Method method : PivotChamber.class.getDeclaredMethods()) {
            boolean isShare = Arrays.asList("share", "part", "unionGain").contains(method.getName());
            Class<?> type = method.getReturnType();
            if (Modifier.isPublic(method.getModifiers())) {
                check.holds(method.getName(), isShare == (type == float.class || type == double.class));
            }
        }
        PivotChamber x = four();
        check.same("share(0)", x.share(0), 5.0f / 12.0f);
        check.same("part(0)", x.part(0), 10.0 / 24.0);
    }

    @Says(in = "Terms", value = "There are at most 8 members")
    void eightMembersAndNoNinth() {
        PivotChamber x = eight(1, 1);
        check.same("members", x.whole(0), 8);
        check.refuses("a ninth", x, STATE, () -> x.add(1));
        check.same("a ninth by a text", runOf(x, "add 1;"), 0);
        check.same("members", x.whole(0), 8);
    }

    @Says(in = "Terms", value = "numbered from 0, each with a weight (0 to 50)")
    void theFirstMemberIs0AndTheEighth7() {
        PivotChamber x = new PivotChamber();
        for (int due = 0; due < 8; due++) {
            check.same("add()", x.add(due), due);
        }
        check.same("weight of the first", x.member(0, 0), 0);
        check.same("weight of the eighth", x.member(7, 0), 7);
        refusesEach("member(m, 0)", x, PLACE, m -> x.member(m, 0), NONE_OF_EIGHT);
    }

    @Says(in = "Terms", value = "each with a weight (0 to 50)")
    void weightsGoFrom0To50() {
        PivotChamber x = chamber(50, 0, 50);
        check.same("weight of 0", x.member(0, 0), 0);
        check.same("weight of 1", x.member(1, 0), 50);
        check.same("wins(2)", x.wins(2), 1);
        check.same("wins(1)", x.wins(1), 0);
        refusesEach("add(w)", x, ARGUMENT, x::add, NO_WEIGHTS);
    }

    @Says(in = "Terms", value = "A member follows another one, who follows nobody, or nobody.")
    void nobodyFollowsAFollower() {
        PivotChamber x = chamber(1, 1, 1, 1);
        x.follow(1, 0);
        check.refuses("following a follower", x, STATE, () -> x.follow(2, 1));
        check.refuses("a follower's leader following", x, STATE, () -> x.follow(0, 2));
        check.refuses("following each other", x, STATE, () -> x.follow(0, 1));
        check.refuses("following oneself", x, ARGUMENT, () -> x.follow(2, 2));
        check.same("follow(2, 0)", x.follow(2, 0), 3);
        check.same("whom 0 follows", x.member(0, 1), NONE);
        check.same("whom 1 follows", x.member(1, 1), 0);
        check.same("whom 2 follows", x.member(2, 1), 0);
    }

    @Says(in = "Terms", value = "A member who follows nobody is a player")
    void playersAreThoseWhoFollowNobody() {
        PivotChamber x = eight(1, 1);
        check.same("players", x.whole(1), 8);
        for (int m = 0; m < 7; m++) {
            x.follow(m, 7);
            check.same("players when " + m + " follows too", x.whole(1), 7 - m);
        }
        check.same("players that are needed", x.whole(9), 128);
        x.leave(0);
        check.same("players when one left", x.whole(1), 2);
        check.same("players of nobody", new PivotChamber().whole(1), 0);
    }

    @Says(in = "Terms", value = "its bloc is it and all who follow it")
    void theBlocOfAllAndOfOneAlone() {
        PivotChamber x = eight(1, 1);
        x.addRule(0, 8);
        for (int m = 1; m < 8; m++) {
            check.same("wins(1) before " + m + " follows", x.wins(1), 0);
            x.follow(m, 0);
        }
        check.same("wins(1) with all in its bloc", x.wins(1), 1);
        check.same("how many follow 0", x.member(0, 2), 7);
        x.leave(7);
        check.same("wins(1) without 7", x.wins(1), 0);
        check.same("the bloc of 7 is 7 alone", x.member(7, 3), 1);
    }

    @Says(in = "Terms", value = "the weight of the bloc is the sum of their weights")
    void theWeightOfABlocGoesFrom0To400() {
        PivotChamber x = eight(1, 50);
        for (int m = 0; m < 7; m++) {
            check.same("follow(" + m + ", 7)", x.follow(m, 7), 100 + 50 * m);
        }
        check.same("weight of the bloc of all", x.member(7, 3), 400);
        PivotChamber y = chamber(1, 0, 0);
        check.same("follow(0, 1) of no weights", y.follow(0, 1), 0);
        check.same("weight of a bloc of no weights", y.member(1, 3), 0);
        y.setWeight(0, 5);
        check.same("weight of the bloc by the follower alone", y.member(1, 3), 5);
    }

    @Says(in = "Terms", value = "Sets of members are bit masks: bit m is for the member m.")
    void bit0IsForMember0AndBit7ForMember7() {
        PivotChamber last = chamber(7, 0, 0, 0, 0, 0, 0, 0, 7);
        check.same("wins(128)", last.wins(128), 1);
        check.same("wins(127)", last.wins(127), 0);
        check.same("least(0)", last.least(0), 128);
        check.same("needed", last.whole(9), 128);
        check.same("dummies", last.whole(8), 127);
        PivotChamber first = chamber(7, 7, 0, 0, 0, 0, 0, 0, 0);
        check.same("wins(1)", first.wins(1), 1);
        check.same("wins(254)", first.wins(254), 0);
        check.same("least(0)", first.least(0), 1);
        check.same("needed", first.whole(9), 1);
        check.same("dummies", first.dummiesWith(7), 254);
    }

    @Says(in = "Terms", value = "then all members of their blocs say yes, and all others say no")
    void followersSayWhatTheirPlayerSays() {
        PivotChamber x = chamber(5, 2, 3, 4);
        x.follow(1, 0);
        check.same("wins(1), whose follower says yes", x.wins(1), 1);
        check.same("wins(4), when the others say no", x.wins(4), 0);
        x.setQuota(4);
        x.addRule(1, 1);
        check.same("reason(1), as 1 says yes", x.reason(1), 0);
        check.same("reason(4), as 1 says no", x.reason(4), 2);
        check.same("reason(0), as all say no", x.reason(0), 1);
    }

    @Says(in = "Terms", value = "(Members of a set who are no players do not matter.)")
    void followersInASetDoNotMatter() {
        PivotChamber x = chamber(5, 4, 3, 2, 50);
        x.follow(3, 1);
        check.same("wins(8), as by nobody", x.wins(8), 0);
        check.same("reason(8)", x.reason(8), 1);
        check.same("wins(9), as by 0", x.wins(9), 0);
        check.same("wins(2) with its follower", x.wins(2), 1);
        check.same("wins(10)", x.wins(10), 1);
        x.setQuota(4);
        x.addRule(2, 8);
        check.same("reason(9), as 3 says no", x.reason(9), 2);
        check.same("reason(10)", x.reason(10), 0);
    }

    @Says(in = "Terms", value = "There is a quota (1 to 400")
    void theQuotaGoesFrom1To400() {
        PivotChamber x = eight(400, 50);
        check.same("quota", x.whole(2), 400);
        check.same("sets that win by 400", x.whole(5), 1);
        check.same("wins(255)", x.wins(255), 1);
        check.same("wins(127)", x.wins(127), 0);
        x.setQuota(1);
        check.same("quota", x.whole(2), 1);
        check.same("sets that win by 1", x.whole(5), 255);
        check.same("wins(0)", x.wins(0), 0);
        refusesEach("setQuota(q)", x, ARGUMENT, x::setQuota, NO_QUOTAS);
    }

    @Says(in = "Terms", value = "1 at first")
    void theQuotaIs1AtFirst() {
        PivotChamber x = new PivotChamber();
        check.same("quota", x.whole(2), 1);
        x.add(1);
        check.same("wins(1)", x.wins(1), 1);
        x.setWeight(0, 0);
        check.same("wins(1) without weight", x.wins(1), 0);
        check.same("setQuota(2)", x.setQuota(2), 1);
    }

    @Says(in = "Terms", value = "there are at most 4 rules")
    void fourRulesAndNoFifth() {
        PivotChamber x = chamber(1, 1, 1, 1, 1);
        for (int r = 0; r < 4; r++) {
            x.addRule(1, r);
        }
        check.same("rules", x.whole(3), 4);
        check.refuses("a fifth", x, STATE, () -> x.addRule(1, 0));
        check.same("a fifth by a text", runOf(x, "rule 1 0;"), 0);
        check.same("rules", x.whole(3), 4);
        check.same("each of them is asked for: sets that win", x.whole(5), 1);
    }

    @Says(in = "Terms", value = "numbered from 0, each of a kind with a value")
    void theFirstRuleIs0AndTheFourth3() {
        PivotChamber x = new PivotChamber();
        int[][] rules = {{0, 8}, {1, 7}, {2, 255}, {1, 0}};
        for (int r = 0; r < rules.length; r++) {
            check.same("addRule()", x.addRule(rules[r][0], rules[r][1]), r);
        }
        for (int r = 0; r < rules.length; r++) {
            check.same("kind of " + r, x.rule(r, 0), rules[r][0]);
            check.same("value of " + r, x.rule(r, 1), rules[r][1]);
        }
        refusesEach("rule(r, 0)", x, PLACE, r -> x.rule(r, 0), NONE_OF_FOUR);
    }

    @Says(in = "Terms", value = "0 at least as many members say yes as the value tells (1 to 8)")
    void asManyAsTheValueAreEnoughAndOneLessIsNot() {
        PivotChamber x = eight(1, 1);
        x.addRule(0, 8);
        check.same("wins(255) by 8", x.wins(255), 1);
        check.same("reason(254) by 8", x.reason(254), 2);
        check.same("reason(127) by 8", x.reason(127), 2);
        x.dropRule(0);
        x.addRule(0, 1);
        check.same("wins(128) by 1", x.wins(128), 1);
        check.same("wins(255) by 1", x.wins(255), 1);
        x.dropRule(0);
        x.addRule(0, 2);
        check.same("wins(128) by 2", x.wins(128), 0);
        check.same("wins(129) by 2", x.wins(129), 1);
        x.follow(0, 7);
        check.same("wins(128) by 2, with a follower", x.wins(128), 1);
        x.setWeight(0, 0);
        check.same("a member without weight is counted", x.wins(128), 1);
    }

    @Says(in = "Terms", value = "1 the member that the value tells (0 to 7) says yes")
    void theFirstOrTheLastMemberMustSayYes() {
        PivotChamber x = eight(1, 1);
        x.addRule(1, 0);
        check.same("wins(1) by 0", x.wins(1), 1);
        check.same("reason(254) by 0", x.reason(254), 2);
        x.dropRule(0);
        x.addRule(1, 7);
        check.same("wins(128) by 7", x.wins(128), 1);
        check.same("reason(127) by 7", x.reason(127), 2);
        x.follow(7, 0);
        check.same("wins(1), whom 7 follows", x.wins(1), 1);
        check.same("reason(126), as 7 does not say yes", x.reason(126), 2);
        check.same("reason(254), as 7 is no player", x.reason(254), 2);
    }

    @Says(in = "Terms", value = "if there is no such member, the rule does not hold")
    void aRuleForNoMemberNeverHolds() {
        PivotChamber x = chamber(1, 1, 1);
        x.addRule(1, 2);
        check.same("reason(3)", x.reason(3), 2);
        check.same("rule(0, 2)", x.rule(0, 2), 0);
        check.same("sets that win", x.whole(5), 0);
        x.add(0);
        check.same("reason(7) when there is one", x.reason(7), 0);
        check.same("rule(0, 2) when there is one", x.rule(0, 2), 1);
        x.undo();
        check.same("reason(3) when it is gone", x.reason(3), 2);
        PivotChamber none = new PivotChamber();
        none.addRule(1, 0);
        check.same("rule(0, 2) without members", none.rule(0, 2), 0);
        PivotChamber seven = chamber(1, 1, 1, 1, 1, 1, 1, 1);
        seven.addRule(1, 7);
        check.same("wins(127) by a rule for 7", seven.wins(127), 0);
    }

    @Says(in = "Terms", value = "2 at least one member of the set that the value tells (1 to 255) says yes.")
    void oneMemberOfTheSetIsEnough() {
        PivotChamber x = eight(1, 1);
        x.addRule(2, 1);
        check.same("reason(254) by 1", x.reason(254), 2);
        check.same("reason(1) by 1", x.reason(1), 0);
        x.dropRule(0);
        x.addRule(2, 128);
        check.same("reason(127) by 128", x.reason(127), 2);
        check.same("reason(128) by 128", x.reason(128), 0);
        x.dropRule(0);
        x.addRule(2, 255);
        for (int m = 0; m < 8; m++) {
            check.same("one alone by 255", x.reason(1 << m), 0);
        }
        x.dropRule(0);
        x.addRule(2, 0x81);
        check.same("reason(126) by the outermost", x.reason(126), 2);
        x.follow(0, 1);
        check.same("reason(2), whom one of the set follows", x.reason(2), 0);
        PivotChamber two = chamber(1, 1, 1);
        two.addRule(2, 0xFC);
        check.same("reason(3) when nobody of the set is there", two.reason(3), 2);
        check.same("reason(3) when one of the set is there", reasonByRule(two, 2, 0xFE), 0);
    }

    private static int reasonByRule(PivotChamber x, int kind, int value) {
        x.dropRule(0);
        x.addRule(kind, value);
        return x.reason(3);
    }

    @Says(in = "Terms", value = "A set of players wins if the sum of the weights of all members who say yes is "
            + "at least the quota")
    void theQuotaItselfIsEnoughAndOneLessIsNot() {
        PivotChamber x = four();
        check.same("wins(5) with 6", x.wins(5), 1);
        check.same("wins(9) with 5", x.wins(9), 0);
        x.setQuota(7);
        check.same("wins(3) with 7", x.wins(3), 1);
        check.same("wins(5) with 6 by 7", x.wins(5), 0);
        x.setQuota(10);
        check.same("wins(15) with all", x.wins(15), 1);
        x.setQuota(11);
        check.same("wins(15) with one less than the quota", x.wins(15), 0);
        x.setQuota(1);
        check.same("wins(0) by 1", x.wins(0), 0);
        check.same("wins(8) by 1", x.wins(8), 1);
        check.same("wins(7) without weights", chamber(1, 0, 0, 0).wins(7), 0);
    }

    @Says(in = "Terms", value = "and all rules hold")
    void eachRuleMustHold() {
        PivotChamber x = chamber(1, 4, 3, 2, 1);
        check.same("wins(1) without rules", x.wins(1), 1);
        x.addRule(0, 2);
        x.addRule(1, 3);
        check.same("wins(3), which breaks the last", x.wins(3), 0);
        check.same("wins(8), which breaks the first", x.wins(8), 0);
        check.same("wins(9)", x.wins(9), 1);
        x.addRule(2, 15);
        x.addRule(1, 2);
        check.same("wins(9), which breaks the fourth alone", x.wins(9), 0);
        check.same("wins(12), which breaks none", x.wins(12), 1);
        x.setQuota(4);
        check.same("wins(12), which breaks none, but has not the quota", x.wins(12), 0);
    }

    @Says(in = "Terms", value = "A least winning set is a set of players that wins, and does not if any one of "
            + "them is taken away.")
    void noneOfALeastSetCanBeSpared() {
        check.same("sets of four()", four().whole(6), 3);
        PivotChamber x = chamber(3, 2, 1, 1);
        leastSets(x, 3, 5);
        leastSets(chamber(4, 4, 1), 1);
        leastSets(chamber(4, 4, 0), 1);
        leastSets(chamber(5, 4, 1), 3);
        leastSets(chamber(6, 4, 1));
        leastSets(new PivotChamber());
        leastSets(eight(8, 1), 255);
        leastSets(eight(1, 1), 1, 2, 4, 8, 16, 32, 64, 128);
        leastSets(fourWithFollower(), 3, 5, 6);
        PivotChamber byRule = chamber(1, 0, 1);
        byRule.addRule(1, 0);
        leastSets(byRule, 3);
    }

    private void leastSets(PivotChamber x, int... due) {
        check.same("how many", x.whole(6), due.length);
        for (int i = 0; i < due.length; i++) {
            check.same("least(" + i + ")", x.least(i), due[i]);
        }
        check.same("behind the last", x.least(due.length), NONE);
    }

    @Says(in = "Terms", value = "A player swings a set of players in which it is, if the set wins, and does not "
            + "without")
    void aSwingNeedsThePlayerInAWinningSet() {
        swings(twoAndDummy(), 2, 2, 0);
        swings(chamber(12, 5, 5, 1), 0, 0, 0);
        swings(chamber(11, 5, 5, 1), 1, 1, 1);
        swings(chamber(1, 1), 1);
        swings(chamber(1, 0), 0);
        PivotChamber byRule = chamber(1, 1, 0);
        byRule.addRule(1, 1);
        swings(byRule, 1, 1);
    }

    private void swings(PivotChamber x, int... due) {
        for (int m = 0; m < due.length; m++) {
            check.same("swings of " + m, x.member(m, 4), due[m]);
        }
    }

    @Says(in = "Terms", value = "Its swings are how many sets it swings.")
    void swingsOfEightGoFrom0To128() {
        swings(chamber(1, 1, 0, 0, 0, 0, 0, 0, 0), 128, 0, 0, 0, 0, 0, 0, 0);
        swings(chamber(50, 0, 0, 0, 0, 0, 0, 0, 50), 0, 0, 0, 0, 0, 0, 0, 128);
        swings(eight(4, 1), 35, 35, 35, 35, 35, 35, 35, 35);
        swings(eight(8, 1), 1, 1, 1, 1, 1, 1, 1, 1);
        swings(four(), 5, 3, 3, 1);
    }

    @Says(in = "Terms", value = "the pivot is the first one with whom those who have said yes win (none, if all "
            + "players together do not win)")
    void thePivotMayBeFirstOrLastOrNobody() {
        PivotChamber x = four();
        x.setQuota(4);
        check.same("the first one", x.pivot(1234), 0);
        check.same("the second one", x.pivot(2143), 0);
        x.setQuota(10);
        check.same("the last one", x.pivot(1234), 3);
        check.same("the last one", x.pivot(4321), 0);
        x.setQuota(11);
        check.same("nobody", x.pivot(1234), NONE);
        check.same("orders of 0", x.member(0, 5), 0);
        x.setQuota(1);
        x.addRule(1, 2);
        check.same("the one that a rule asks for", x.pivot(1234), 2);
        check.same("it at once", x.pivot(3124), 2);
    }

    @Says(in = "Terms", value = "Its orders are in how many orders of all players it is the pivot.")
    void ordersOfEightGoFrom0To40320() {
        orders(chamber(1, 1, 0, 0, 0, 0, 0, 0, 0), 40320, 0, 0, 0, 0, 0, 0, 0);
        orders(eight(8, 1), 5040, 5040, 5040, 5040, 5040, 5040, 5040, 5040);
        orders(eight(9, 1), 0, 0, 0, 0, 0, 0, 0, 0);
        orders(four(), 10, 6, 6, 2);
        orders(chamber(1, 1), 1);
        orders(chamber(1, 1, 0), 2, 0);
    }

    private void orders(PivotChamber x, int... due) {
        for (int m = 0; m < due.length; m++) {
            check.same("orders of " + m, x.member(m, 5), due[m]);
        }
    }

    @Says(in = "Terms", value = "Members who are no players have 0 swings and 0 orders.")
    void followersHaveNoSwingsAndOrders() {
        PivotChamber x = chamber(50, 0, 50);
        x.follow(1, 0);
        swings(x, 1, 0);
        orders(x, 1, 0);
        x.leave(1);
        swings(x, 0, 2);
        orders(x, 0, 2);
        x.follow(0, 1);
        swings(x, 0, 1);
        orders(x, 0, 1);
        check.same("swingsWith(0, 1)", x.swingsWith(0, 1), 0);
    }

    @Says(in = "Terms", value = "The share of a player is (float) its swings / (float) all swings of all "
            + "players, or 0.0f if there are none")
    void sharesGoFrom0To1() {
        check.same("one of three", chamber(2, 1, 1, 1).share(2), 2.0f / 6.0f);
        check.same("one alone", chamber(1, 1).share(0), 1.0f);
        check.same("who decides", chamber(1, 1, 0, 0, 0, 0, 0, 0, 0).share(0), 1.0f);
        check.same("a dummy", chamber(1, 1, 0, 0, 0, 0, 0, 0, 0).share(7), 0.0f);
        check.same("one of eight", eight(4, 1).share(7), 35.0f / 280.0f);
        check.same("when there are no swings", chamber(4, 1, 1, 1).share(0), 0.0f);
        check.same("when there is no weight", chamber(1, 0).share(0), 0.0f);
    }

    @Says(in = "Terms", value = "its part is (double) its orders / (double) the number of all orders of the players")
    void partsGoFrom0To1() {
        check.same("one of three", chamber(2, 1, 1, 1).part(2), 2.0 / 6.0);
        check.same("one alone", chamber(1, 1).part(0), 1.0);
        check.same("one alone without weight", chamber(1, 0).part(0), 0.0);
        check.same("who decides", chamber(1, 0, 0, 0, 0, 0, 0, 0, 1).part(7), 1.0);
        check.same("one of eight", eight(4, 1).part(7), 5040.0 / 40320.0);
        check.same("one of three players and a follower", fourWithFollower().part(0), 2.0 / 6.0);
        check.same("when nothing wins", chamber(4, 1, 1, 1).part(0), 0.0);
    }

    @Says(in = "Terms", value = "Members who are no players have the share 0.0f and the part 0.0.")
    void followersHaveTheShare0AndThePart0() {
        PivotChamber x = chamber(50, 0, 50);
        x.follow(1, 0);
        check.same("share(1)", x.share(1), 0.0f);
        check.same("part(1)", x.part(1), 0.0);
        check.same("share(0)", x.share(0), 1.0f);
        check.same("part(0)", x.part(0), 1.0);
        x.setWeight(1, 0);
        check.same("share(1) when there are no swings", x.share(1), 0.0f);
        check.same("part(1) when there are no swings", x.part(1), 0.0);
    }

    @Says(in = "Terms", value = "A player is a dummy if it has no swings.")
    void dummiesAreNoneOrSomeOrAll() {
        check.same("none", four().whole(8), 0);
        check.same("none when one set alone wins", eight(8, 1).whole(8), 0);
        check.same("one", twoAndDummy().whole(8), 4);
        check.same("all when nothing wins", eight(9, 1).whole(8), 255);
        check.same("all players, but no followers", eightFollowers().whole(8), 1);
        check.same("of nobody", new PivotChamber().whole(8), 0);
        PivotChamber byRule = chamber(1, 1, 0);
        byRule.addRule(0, 2);
        check.same("none by a rule, though without weight", byRule.whole(8), 0);
    }

    private static PivotChamber eightFollowers() {
        PivotChamber x = eight(400, 1);
        for (int m = 1; m < 8; m++) {
            x.follow(m, 0);
        }
        return x;
    }

    @Says(in = "Terms", value = "A player is needed if some set wins, and each set that wins contains it.")
    void neededAreNoneOrSomeOrAll() {
        check.same("some", twoAndDummy().whole(9), 3);
        check.same("none", four().whole(9), 0);
        check.same("none when nothing wins", eight(9, 1).whole(9), 0);
        check.same("none of nobody", new PivotChamber().whole(9), 0);
        check.same("all when one set alone wins", eight(8, 1).whole(9), 255);
        check.same("all players, but no followers", chamberOfFollowers().whole(9), 3);
        check.same("one alone", chamber(1, 1).whole(9), 1);
        PivotChamber byRule = chamber(1, 1, 0);
        byRule.addRule(1, 1);
        check.same("two by a rule", byRule.whole(9), 3);
    }

    private static PivotChamber chamberOfFollowers() {
        PivotChamber x = chamber(4, 1, 1, 1, 1);
        x.follow(2, 0);
        x.follow(3, 1);
        return x;
    }

    @Says(in = "Terms", value = "Two players stand alike if for each set of players that contains neither of "
            + "them, the set with the one wins exactly if the set with the other one does.")
    void onlySetsWithNeitherOfThemCount() {
        check.same("alike though of unlike weights", four().compare(1, 2), 0);
        PivotChamber x = chamber(5, 5, 4, 5);
        check.same("unlike by the set of nobody else alone", x.compare(0, 1), 1);
        x.setQuota(4);
        check.same("alike by a quota that both reach", x.compare(0, 1), 0);
        PivotChamber y = chamber(7, 2, 1, 5);
        check.same("unlike by the set of all others alone", y.compare(0, 1), 1);
        y.setQuota(8);
        check.same("alike when both are asked for", y.compare(0, 1), 0);
        check.same("alike when there is nobody else", chamber(1, 50, 1).compare(0, 1), 0);
        check.same("alike when nothing wins", chamber(400, 50, 1).compare(0, 1), 0);
        PivotChamber withFollower = chamber(3, 1, 1, 2);
        check.same("alike with a set of players", withFollower.compare(0, 1), 0);
        withFollower.follow(2, 0);
        check.same("unlike when a follower is no set of its own", withFollower.compare(0, 1), 1);
    }

    @Says(in = "Terms", value = "`NONE = -1`: Returned where there is no such value.")
    void noneIsMinus1() {
        check.same("NONE", PivotChamber.NONE, -1);
        PivotChamber x = chamber(400, 1);
        check.same("member(0, 1)", x.member(0, 1), -1);
        check.same("least(0)", x.least(0), -1);
        check.same("pivot(1)", x.pivot(1), -1);
        check.same("leastWeight(0)", x.leastWeight(0), -1);
        check.same("bestQuota(0)", chamber(1, 0).bestQuota(0), -1);
    }

    @Says(in = "Terms", value = "---- what if, which changes nothing.")
    void whatIfQuestionsChangeNothing() {
        unchangedBy("reason", x -> x.reason(3));
        unchangedBy("pivot", x -> x.pivot(123));
        unchangedBy("swingsWith", x -> x.swingsWith(0, 1));
        unchangedBy("bestQuota", x -> x.bestQuota(0));
        unchangedBy("dummiesWith", x -> x.dummiesWith(400));
        unchangedBy("leastWeight", x -> x.leastWeight(0));
        unchangedBy("unionGain", x -> x.unionGain(0, 1));
        unchangedBy("compare", x -> x.compare(0, 1));
    }

    @Says(in = "Terms", value = "the interface says: ---- values.")
    void askingForValuesChangesNothing() {
        unchangedBy("member", x -> x.member(3, 7));
        unchangedBy("rule", x -> x.rule(0, 2));
        unchangedBy("whole", x -> x.whole(11));
        unchangedBy("wins", x -> x.wins(15));
        unchangedBy("least", x -> x.least(2));
        unchangedBy("share", x -> x.share(0));
        unchangedBy("part", x -> x.part(0));
        unchangedBy("digest", PivotChamber::digest);
    }

    private void unchangedBy(String name, Consumer<PivotChamber> call) {
        PivotChamber x = asked();
        call.accept(x);
        alike(name, x, asked());
    }

    /** A chamber with something of everything: members, a follower, a rule, saved states, a text. */
    private static PivotChamber asked() {
        PivotChamber x = four();
        x.follow(3, 1);
        x.addRule(2, 7);
        write(x, "add 7;quota 9;drop 0;");
        return x;
    }
}
