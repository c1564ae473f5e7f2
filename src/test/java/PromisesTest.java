/** For each promise of the document: ordinary inputs, the edges that it names, and wrong inputs. */
public final class PromisesTest extends ChamberTests {
    public static void main(String[] args) {
        PromisesTest test = new PromisesTest();
        test.promise1();
        test.promise2();
        test.promise3();
        test.promise4();
        test.promise5();
        test.promise6();
        test.promise7();
        test.promise8();
        test.promise9();
        test.promise9Power();
        test.promise10();
        test.promise11();
        test.promise12();
        test.promise13();
        test.promise14();
        test.promise15();
        test.promise16();
        test.promise17();
        test.promise18();
        test.promise19();
        test.promise20();
        test.promise21();
        test.promise22();
        test.promise23();
        test.promise24();
        test.promise25();
        test.promise26();
        test.promise26Faults();
        test.promise26Running();
        test.promise27();
        test.promise28();
        test.promise28ByHand();
        test.check.end("PromisesTest");
    }

    private void promise1() {
        check.topic("promise 1");
        PivotChamber x = new PivotChamber();
        int[] whole = {0, 0, 1, 0, 0, 0, 0, 0, 0, 0, 0, 0};
        for (int what = 0; what < whole.length; what++) {
            check.same("whole(" + what + ")", x.whole(what), whole[what]);
        }
        check.refuses("undo() of a new object", x, STATE, x::undo);
        check.same("NONE", PivotChamber.NONE, -1);
        PivotChamber other = new PivotChamber();
        other.add(7);
        check.same("members of the first when the second has one", x.whole(0), 0);
    }

    private void promise2() {
        check.topic("promise 2");
        PivotChamber x = new PivotChamber();
        check.refuses("add(-1)", x, ARGUMENT, () -> x.add(-1));
        check.refuses("add(51)", x, ARGUMENT, () -> x.add(51));
        check.refuses("add(least)", x, ARGUMENT, () -> x.add(LEAST));
        int[] weights = {0, 50, 1, 2, 3, 4, 5, 6};
        for (int i = 0; i < weights.length; i++) {
            check.same("add " + i, x.add(weights[i]), i);
            check.same("its weight", x.member(i, 0), weights[i]);
            check.same("whom it follows", x.member(i, 1), -1);
        }
        check.refuses("add(1) of a ninth", x, STATE, () -> x.add(1));
        check.refuses("add(51) of a ninth", x, ARGUMENT, () -> x.add(51));
        check.same("undo()", x.undo(), 3);
        check.same("members after undo", x.whole(0), 7);
        check.same("add after undo", x.add(9), 7);
        PivotChamber y = chamber(1, 3, 4);
        y.follow(1, 0);
        y.undo();
        y.undo();
        y.undo();
        check.same("a member in the place of one that is undone", y.add(8), 1);
        check.same("follows nobody", y.member(1, 1), -1);
    }

    private void promise3() {
        check.topic("promise 3");
        PivotChamber x = chamber(3, 2, 1);
        check.same("setWeight(0, 50)", x.setWeight(0, 50), 2);
        check.same("setWeight(0, 0)", x.setWeight(0, 0), 50);
        check.same("setWeight(1, 7)", x.setWeight(1, 7), 1);
        check.same("weight of 0", x.member(0, 0), 0);
        check.same("weight of 1", x.member(1, 0), 7);
        check.same("winning sets", x.whole(5), 2);
        check.refuses("setWeight(2, 1)", x, PLACE, () -> x.setWeight(2, 1));
        check.refuses("setWeight(-1, 1)", x, PLACE, () -> x.setWeight(-1, 1));
        check.refuses("setWeight(2, 51)", x, PLACE, () -> x.setWeight(2, 51));
        check.refuses("setWeight(most, -1)", x, PLACE, () -> x.setWeight(MOST, -1));
        check.refuses("setWeight(0, 51)", x, ARGUMENT, () -> x.setWeight(0, 51));
        check.refuses("setWeight(1, -1)", x, ARGUMENT, () -> x.setWeight(1, -1));
        check.same("undo()", x.undo(), 3);
        check.same("weight of 1 after undo", x.member(1, 0), 1);
        check.same("the same weight again", x.setWeight(1, 1), 1);
        check.same("is undoable too", x.undo(), 3);
    }

    private void promise4() {
        check.topic("promise 4");
        PivotChamber x = new PivotChamber();
        check.same("setQuota(400)", x.setQuota(400), 1);
        check.same("setQuota(1)", x.setQuota(1), 400);
        check.same("setQuota(5)", x.setQuota(5), 1);
        check.same("quota", x.whole(2), 5);
        check.refuses("setQuota(0)", x, ARGUMENT, () -> x.setQuota(0));
        check.refuses("setQuota(401)", x, ARGUMENT, () -> x.setQuota(401));
        check.refuses("setQuota(least)", x, ARGUMENT, () -> x.setQuota(LEAST));
        check.same("undo()", x.undo(), 2);
        check.same("quota after undo", x.whole(2), 1);
        PivotChamber y = chamber(3, 1, 2);
        check.same("sets that win by 3", y.whole(5), 1);
        y.setQuota(2);
        check.same("sets that win by 2", y.whole(5), 2);
    }

    private void promise5() {
        check.topic("promise 5");
        PivotChamber x = chamber(4, 4, 3, 2, 1);
        check.same("follow(3, 1)", x.follow(3, 1), 4);
        check.same("follow(2, 1)", x.follow(2, 1), 6);
        check.same("whom 2 follows", x.member(2, 1), 1);
        check.same("players", x.whole(1), 2);
        check.refuses("follow(2, 0), who follows somebody", x, STATE, () -> x.follow(2, 0));
        check.refuses("follow(2, 1), whom it follows", x, STATE, () -> x.follow(2, 1));
        check.refuses("follow(1, 0), who is followed", x, STATE, () -> x.follow(1, 0));
        check.refuses("follow(0, 2), who follows somebody", x, STATE, () -> x.follow(0, 2));
        check.refuses("follow(0, 0)", x, ARGUMENT, () -> x.follow(0, 0));
        check.refuses("follow(2, 2)", x, ARGUMENT, () -> x.follow(2, 2));
        check.refuses("follow(4, 4)", x, PLACE, () -> x.follow(4, 4));
        check.refuses("follow(0, 4)", x, PLACE, () -> x.follow(0, 4));
        check.refuses("follow(4, 0)", x, PLACE, () -> x.follow(4, 0));
        check.refuses("follow(-1, -1)", x, PLACE, () -> x.follow(-1, -1));
        check.refuses("follow(2, -1)", x, PLACE, () -> x.follow(2, -1));
        check.same("follow(0, 1)", x.follow(0, 1), 10);
        check.same("players when all follow one", x.whole(1), 1);
        check.same("undo()", x.undo(), 3);
        check.same("whom 0 follows after undo", x.member(0, 1), -1);
    }

    private void promise6() {
        check.topic("promise 6");
        PivotChamber x = chamber(4, 4, 3, 2);
        x.follow(2, 1);
        x.follow(0, 1);
        check.refuses("leave(1), who follows nobody", x, STATE, () -> x.leave(1));
        check.same("leave(2)", x.leave(2), 1);
        check.same("whom 2 follows", x.member(2, 1), -1);
        check.same("whom 0 follows", x.member(0, 1), 1);
        check.refuses("leave(2) again", x, STATE, () -> x.leave(2));
        check.refuses("leave(3)", x, PLACE, () -> x.leave(3));
        check.refuses("leave(-1)", x, PLACE, () -> x.leave(-1));
        check.same("undo()", x.undo(), 3);
        check.same("whom 2 follows after undo", x.member(2, 1), 1);
    }

    private void promise7() {
        check.topic("promise 7");
        PivotChamber x = chamber(1, 1, 1);
        int[][] wrong = {{-1, 1}, {3, 1}, {0, 0}, {0, 9}, {1, -1}, {1, 8}, {2, 0}, {2, 256}, {LEAST, 1}, {2, MOST}};
        for (int[] pair : wrong) {
            check.refuses("addRule(" + pair[0] + ", " + pair[1] + ")", x, ARGUMENT, () -> x.addRule(pair[0], pair[1]));
        }
        check.same("addRule(0, 8)", x.addRule(0, 8), 0);
        check.same("addRule(1, 0)", x.addRule(1, 0), 1);
        check.same("addRule(2, 255)", x.addRule(2, 255), 2);
        check.same("addRule(2, 1)", x.addRule(2, 1), 3);
        check.same("kind of 1", x.rule(1, 0), 1);
        check.same("value of 2", x.rule(2, 1), 255);
        check.refuses("a fifth rule", x, STATE, () -> x.addRule(0, 1));
        for (int[] pair : wrong) {
            check.refuses("wrong and fifth", x, ARGUMENT, () -> x.addRule(pair[0], pair[1]));
        }
        check.same("undo()", x.undo(), 3);
        check.same("rules after undo", x.whole(3), 3);
        check.same("addRule(1, 7)", x.addRule(1, 7), 3);
        check.same("its value", x.rule(3, 1), 7);
        PivotChamber y = new PivotChamber();
        check.same("addRule(0, 1) without members", y.addRule(0, 1), 0);
    }

    private void promise8() {
        check.topic("promise 8");
        PivotChamber x = chamber(1, 1, 1);
        check.refuses("dropRule(0) without rules", x, PLACE, () -> x.dropRule(0));
        x.addRule(0, 1);
        x.addRule(1, 2);
        x.addRule(2, 3);
        x.addRule(0, 4);
        check.refuses("dropRule(4)", x, PLACE, () -> x.dropRule(4));
        check.refuses("dropRule(-1)", x, PLACE, () -> x.dropRule(-1));
        check.same("dropRule(1)", x.dropRule(1), 3);
        check.same("kind of 0", x.rule(0, 0), 0);
        check.same("kind of 1", x.rule(1, 0), 2);
        check.same("value of 1", x.rule(1, 1), 3);
        check.same("value of 2", x.rule(2, 1), 4);
        check.refuses("rule(3, 0)", x, PLACE, () -> x.rule(3, 0));
        check.same("undo()", x.undo(), 3);
        check.same("kind of 1 after undo", x.rule(1, 0), 1);
        check.same("value of 1 after undo", x.rule(1, 1), 2);
        check.same("value of 3 after undo", x.rule(3, 1), 4);
        check.same("dropRule(3)", x.dropRule(3), 3);
        check.same("dropRule(0)", x.dropRule(0), 2);
        check.same("dropRule(0)", x.dropRule(0), 1);
        check.same("the one that is left", x.rule(0, 1), 3);
        check.same("dropRule(0)", x.dropRule(0), 0);
        check.same("winning sets without rules", x.whole(5), 3);
    }

    private void promise9() {
        check.topic("promise 9");
        PivotChamber x = chamber(6, 4, 3, 2, 1);
        x.follow(3, 1);
        int[][] due = {
            {4, -1, 0, 4, 2, 2, 0, 0},
            {3, -1, 1, 4, 2, 2, 0, 0},
            {2, -1, 0, 2, 2, 2, 0, 0},
            {1, 1, 0, 0, 0, 0, 0, 0}};
        checkMembers(x, due);
        check.refuses("member(4, 0)", x, PLACE, () -> x.member(4, 0));
        check.refuses("member(-1, 0)", x, PLACE, () -> x.member(-1, 0));
        check.refuses("member(4, 8)", x, PLACE, () -> x.member(4, 8));
        check.refuses("member(0, 8)", x, ARGUMENT, () -> x.member(0, 8));
        check.refuses("member(3, -1)", x, ARGUMENT, () -> x.member(3, -1));
        check.refuses("member(0, least)", x, ARGUMENT, () -> x.member(0, LEAST));
        check.refuses("member(0, 0) of a new object", new PivotChamber(), PLACE, () -> new PivotChamber().member(0, 0));
    }

    private void checkMembers(PivotChamber x, int[][] due) {
        for (int m = 0; m < due.length; m++) {
            for (int what = 0; what < due[m].length; what++) {
                check.same("member(" + m + ", " + what + ")", x.member(m, what), due[m][what]);
            }
        }
    }

    private void promise9Power() {
        // Two large ones that must both agree, a small one that never matters.
        checkMembers(chamber(10, 5, 5, 1), new int[][] {
            {5, -1, 0, 5, 2, 3, 0, 1},
            {5, -1, 0, 5, 2, 3, 0, 1},
            {1, -1, 0, 1, 0, 0, 1, 0}});
        // Nobody is needed when nothing wins, and all are dummies.
        checkMembers(chamber(12, 5, 5, 1), new int[][] {
            {5, -1, 0, 5, 0, 0, 1, 0},
            {5, -1, 0, 5, 0, 0, 1, 0},
            {1, -1, 0, 1, 0, 0, 1, 0}});
        // One alone decides.
        checkMembers(chamber(5, 5, 2, 2), new int[][] {
            {5, -1, 0, 5, 4, 6, 0, 1},
            {2, -1, 0, 2, 0, 0, 1, 0},
            {2, -1, 0, 2, 0, 0, 1, 0}});
        // A rule for the follower makes its player needed, and a rule for heads counts followers too.
        PivotChamber x = chamber(1, 1, 0, 0);
        x.follow(2, 1);
        x.addRule(1, 2);
        x.addRule(0, 3);
        checkMembers(x, new int[][] {
            {1, -1, 0, 1, 1, 1, 0, 1},
            {0, -1, 1, 0, 1, 1, 0, 1},
            {0, 1, 0, 0, 0, 0, 0, 0}});
        PivotChamber eight = chamber(1, 1, 1, 1, 1, 1, 1, 1, 1);
        check.same("orders of one of eight", eight.member(7, 5), 5040);
        check.same("swings of one of eight", eight.member(7, 4), 1);
    }

    private void promise10() {
        check.topic("promise 10");
        PivotChamber x = chamber(400, 0, 0, 0);
        x.follow(2, 0);
        x.addRule(0, 3);
        x.addRule(0, 4);
        x.addRule(1, 2);
        x.addRule(2, 0x84);
        int[][] due = {{0, 3, 1}, {0, 4, 0}, {1, 2, 1}, {2, 0x84, 1}};
        for (int r = 0; r < due.length; r++) {
            for (int what = 0; what < 3; what++) {
                check.same("rule(" + r + ", " + what + ")", x.rule(r, what), due[r][what]);
            }
        }
        check.refuses("rule(4, 0)", x, PLACE, () -> x.rule(4, 0));
        check.refuses("rule(-1, 3)", x, PLACE, () -> x.rule(-1, 3));
        check.refuses("rule(3, 3)", x, ARGUMENT, () -> x.rule(3, 3));
        check.refuses("rule(0, -1)", x, ARGUMENT, () -> x.rule(0, -1));
        PivotChamber y = chamber(1, 1, 1);
        y.addRule(1, 2);
        y.addRule(2, 0xFC);
        check.same("rule of a member that there is not", y.rule(0, 2), 0);
        check.same("rule of a set of nobody", y.rule(1, 2), 0);
        y.add(1);
        check.same("rule of that member when it is there", y.rule(0, 2), 1);
        check.same("rule of that set when one is there", y.rule(1, 2), 1);
    }

    private void promise11() {
        check.topic("promise 11");
        PivotChamber x = chamber(6, 4, 3, 2, 1);
        checkWhole(x, 4, 4, 6, 0, 10, 7, 3, 12, 0, 0, 0, 0);
        x.follow(3, 1);
        x.addRule(1, 3);
        x.addRule(0, 2);
        x.addRule(1, 1);
        write(x, "add");
        // Of the sets of 0, 1, 2 those with 1 and one more win.
        checkWhole(x, 4, 3, 6, 3, 10, 3, 2, 5, 0, 2, 2, 3);
        checkWhole(chamber(10, 5, 5, 1), 3, 3, 10, 0, 11, 2, 1, 4, 4, 3, 0, 0);
        checkWhole(chamber(12, 5, 5, 1), 3, 3, 12, 0, 11, 0, 0, 0, 7, 0, 0, 0);
        check.refuses("whole(12)", x, ARGUMENT, () -> x.whole(12));
        check.refuses("whole(-1)", x, ARGUMENT, () -> x.whole(-1));
        PivotChamber y = chamber(4, 1, 1, 1, 1, 1, 1, 1, 1);
        checkWhole(y, 8, 8, 4, 0, 8, 163, 70, 280, 0, 0, 0, 0);
    }

    private void checkWhole(PivotChamber x, int... due) {
        for (int what = 0; what < due.length; what++) {
            check.same("whole(" + what + ")", x.whole(what), due[what]);
        }
    }

    private void promise12() {
        check.topic("promise 12");
        PivotChamber x = chamber(6, 4, 3, 2, 1);
        int[] due = {0, 0, 0, 1, 0, 1, 0, 1, 0, 0, 0, 1, 0, 1, 1, 1};
        for (int set = 0; set < due.length; set++) {
            check.same("wins(" + set + ")", x.wins(set), due[set]);
        }
        x.setQuota(8);
        x.follow(3, 0);
        x.follow(1, 0);
        check.same("wins(1) with its bloc", x.wins(1), 1);
        check.same("wins(14), of whom one is a player", x.wins(14), 0);
        check.same("wins(11)", x.wins(11), 1);
        check.refuses("wins(16)", x, ARGUMENT, () -> x.wins(16));
        check.refuses("wins(17)", x, ARGUMENT, () -> x.wins(17));
        check.refuses("wins(256)", x, ARGUMENT, () -> x.wins(256));
        check.refuses("wins(-1)", x, ARGUMENT, () -> x.wins(-1));
        PivotChamber eight = chamber(8, 1, 1, 1, 1, 1, 1, 1, 1);
        check.same("wins(255)", eight.wins(255), 1);
        check.same("wins(254)", eight.wins(254), 0);
        check.refuses("wins(256) of eight", eight, ARGUMENT, () -> eight.wins(256));
        check.same("wins(0) of nobody", new PivotChamber().wins(0), 0);
    }

    private void promise13() {
        check.topic("promise 13");
        PivotChamber x = chamber(6, 4, 3, 2, 1);
        int[] due = {3, 5, 14, -1, -1};
        for (int i = 0; i < due.length; i++) {
            check.same("least(" + i + ")", x.least(i), due[i]);
        }
        check.same("least(most)", x.least(MOST), -1);
        check.refuses("least(-1)", x, ARGUMENT, () -> x.least(-1));
        x.setQuota(11);
        check.same("least(0) when nothing wins", x.least(0), -1);
        PivotChamber y = chamber(1, 0, 1);
        y.addRule(0, 2);
        check.same("one without weight is in it by a rule", y.least(0), 3);
        PivotChamber eight = chamber(4, 1, 1, 1, 1, 1, 1, 1, 1);
        check.same("least(0) of eight", eight.least(0), 15);
        check.same("least(69) of eight", eight.least(69), 240);
        check.same("least(70) of eight", eight.least(70), -1);
        eight.follow(0, 7);
        check.same("least(0) when 0 follows 7", eight.least(0), 30);
        check.same("least(15)", eight.least(15), 134);
        check.same("its last", eight.least(eight.whole(6) - 1), 224);
    }

    private void promise14() {
        check.topic("promise 14");
        PivotChamber x = chamber(6, 4, 3, 2, 1);
        check.same("share(0)", x.share(0), 5.0f / 12.0f);
        check.same("share(1)", x.share(1), 0.25f);
        check.same("share(3)", x.share(3), 1.0f / 12.0f);
        x.follow(3, 1);
        check.same("share(1) when 3 follows it", x.share(1), 1.0f / 3.0f);
        check.same("share(3), who is no player", x.share(3), 0.0f);
        x.setQuota(11);
        check.same("share(0) when nothing wins", x.share(0), 0.0f);
        check.refuses("share(4)", x, PLACE, () -> x.share(4));
        check.refuses("share(-1)", x, PLACE, () -> x.share(-1));
        check.same("share(0) of one alone", chamber(1, 1).share(0), 1.0f);
    }

    private void promise15() {
        check.topic("promise 15");
        PivotChamber x = chamber(6, 4, 3, 2, 1);
        check.same("part(0)", x.part(0), 10.0 / 24.0);
        check.same("part(2)", x.part(2), 0.25);
        check.same("part(3)", x.part(3), 2.0 / 24.0);
        x.follow(3, 1);
        check.same("part(1) when 3 follows it", x.part(1), 2.0 / 6.0);
        check.same("part(3), who is no player", x.part(3), 0.0);
        x.setQuota(11);
        check.same("part(0) when nothing wins", x.part(0), 0.0);
        check.refuses("part(4)", x, PLACE, () -> x.part(4));
        check.refuses("part(-1)", x, PLACE, () -> x.part(-1));
        check.same("part(0) of eight", chamber(99, 50, 49, 48, 3, 2, 1, 0, 0).part(0), 13440.0 / 40320.0);
    }

    private void promise16() {
        check.topic("promise 16");
        PivotChamber x = chamber(6, 4, 3, 2, 1);
        x.follow(3, 2);
        x.addRule(0, 3);
        x.addRule(1, 3);
        x.addRule(2, 3);
        x.addRule(1, 0);
        check.same("reason(0)", x.reason(0), 1);
        check.same("reason(1)", x.reason(1), 1);
        check.same("reason(3), of two", x.reason(3), 2);
        check.same("reason(5)", x.reason(5), 0);
        check.same("reason(6)", x.reason(6), 5);
        x.dropRule(0);
        check.same("reason(3) without the first rule", x.reason(3), 2);
        x.setQuota(3);
        check.same("reason(4)", x.reason(4), 3);
        check.same("reason(8), who is no player", x.reason(8), 1);
        check.same("reason(15)", x.reason(15), 0);
        check.refuses("reason(16)", x, ARGUMENT, () -> x.reason(16));
        check.refuses("reason(256)", x, ARGUMENT, () -> x.reason(256));
        check.refuses("reason(-1)", x, ARGUMENT, () -> x.reason(-1));
        check.same("reason(0) of nobody", new PivotChamber().reason(0), 1);
    }

    private void promise17() {
        check.topic("promise 17");
        PivotChamber x = chamber(6, 4, 3, 2, 1);
        check.same("pivot(1234)", x.pivot(1234), 1);
        check.same("pivot(2143)", x.pivot(2143), 0);
        check.same("pivot(3412)", x.pivot(3412), 0);
        check.same("pivot(4321)", x.pivot(4321), 1);
        for (int order : new int[] {0, 123, 12345, 1233, 1230, 1204, 1235, 9234, -1234, LEAST, MOST, 11234, 1111}) {
            check.refuses("pivot(" + order + ")", x, ARGUMENT, () -> x.pivot(order));
        }
        x.follow(3, 1);
        check.same("pivot(312) when 3 follows 1", x.pivot(312), 0);
        check.same("pivot(231)", x.pivot(231), 2);
        check.refuses("pivot(1234), of whom one is no player", x, ARGUMENT, () -> x.pivot(1234));
        x.setQuota(11);
        check.same("pivot(123) when nothing wins", x.pivot(123), -1);
        PivotChamber none = new PivotChamber();
        check.same("pivot(0) of nobody", none.pivot(0), -1);
        check.refuses("pivot(1) of nobody", none, ARGUMENT, () -> none.pivot(1));
        check.refuses("pivot(-1) of nobody", none, ARGUMENT, () -> none.pivot(-1));
        PivotChamber eight = chamber(99, 50, 49, 48, 3, 2, 1, 0, 0);
        check.same("pivot(87654321)", eight.pivot(87654321), 1);
        check.refuses("pivot(987654321)", eight, ARGUMENT, () -> eight.pivot(987654321));
        check.refuses("pivot(1234567812)", eight, ARGUMENT, () -> eight.pivot(1234567812));
    }

    private void promise18() {
        check.topic("promise 18");
        PivotChamber x = chamber(6, 4, 3, 2, 1);
        check.same("swingsWith(0, 6)", x.swingsWith(0, 6), 5);
        check.same("swingsWith(0, 1)", x.swingsWith(0, 1), 1);
        check.same("swingsWith(3, 10)", x.swingsWith(3, 10), 1);
        check.same("swingsWith(3, 9)", x.swingsWith(3, 9), 0);
        check.same("swingsWith(0, 400)", x.swingsWith(0, 400), 0);
        check.same("quota as before", x.whole(2), 6);
        check.same("swings as before", x.member(0, 4), 5);
        x.follow(3, 1);
        check.same("swingsWith(3, 6), who is no player", x.swingsWith(3, 6), 0);
        check.same("swingsWith(1, 4)", x.swingsWith(1, 4), 2);
        check.refuses("swingsWith(4, 0)", x, PLACE, () -> x.swingsWith(4, 0));
        check.refuses("swingsWith(-1, 6)", x, PLACE, () -> x.swingsWith(-1, 6));
        check.refuses("swingsWith(0, 0)", x, ARGUMENT, () -> x.swingsWith(0, 0));
        check.refuses("swingsWith(3, 401)", x, ARGUMENT, () -> x.swingsWith(3, 401));
        x.addRule(0, 4);
        check.same("swingsWith(0, 1) by a rule for all", x.swingsWith(0, 1), 1);
        check.same("swingsWith(2, 1) by a rule for all", x.swingsWith(2, 1), 1);
    }

    private void promise19() {
        check.topic("promise 19");
        PivotChamber x = chamber(6, 4, 3, 2, 1);
        check.same("bestQuota(0)", x.bestQuota(0), 4);
        check.same("bestQuota(1)", x.bestQuota(1), 3);
        check.same("bestQuota(2)", x.bestQuota(2), 2);
        check.same("bestQuota(3)", x.bestQuota(3), 1);
        check.same("quota as before", x.whole(2), 6);
        x.follow(3, 1);
        check.same("bestQuota(3), who is no player", x.bestQuota(3), -1);
        check.refuses("bestQuota(4)", x, PLACE, () -> x.bestQuota(4));
        check.refuses("bestQuota(-1)", x, PLACE, () -> x.bestQuota(-1));
        check.same("bestQuota(0) without weight", chamber(1, 0, 3).bestQuota(0), -1);
        check.same("bestQuota(0) when no weight is there", chamber(1, 0, 0).bestQuota(0), -1);
        check.same("bestQuota(1) of several the least", chamber(9, 2, 2).bestQuota(1), 1);
        check.same("bestQuota(0) up to the sum", chamber(1, 50, 49).bestQuota(0), 50);
        // By 2 it has 2 of 6 swings, by 6 it has 4 of 12: the same share.
        PivotChamber even = chamber(1, 4, 1, 3, 3);
        check.same("bestQuota(2) of equal fractions", even.bestQuota(2), 2);
        check.same("bestQuota(1)", even.bestQuota(1), 1);
        check.same("bestQuota(2) again", even.bestQuota(2), 2);
        int[][] changes = {{50, 40, 1, 1}, {4, 1, 3, 3}, {2, 3, 2, 2}, {9, 9, 1, 8}, {4, 1, 3, 3}};
        for (int[] weights : changes) {
            for (int m = 0; m < weights.length; m++) {
                even.setWeight(m, weights[m]);
            }
            for (int m = 0; m < weights.length; m++) {
                check.same("bestQuota(" + m + ") after a change", even.bestQuota(m), chamber(1, weights).bestQuota(m));
            }
        }
        PivotChamber last = chamber(1, 1, 1);
        last.addRule(1, 0);
        check.same("bestQuota(1), which is the sum", last.bestQuota(1), 2);
        PivotChamber y = chamber(1, 2, 2);
        y.addRule(1, 5);
        check.same("bestQuota(0) when a rule never holds", y.bestQuota(0), -1);
        PivotChamber z = chamber(1, 0, 3);
        z.addRule(1, 0);
        check.same("bestQuota(0) by a rule, without weight", z.bestQuota(0), 1);
    }

    private void promise20() {
        check.topic("promise 20");
        PivotChamber x = chamber(6, 5, 5, 1);
        check.same("dummiesWith(10)", x.dummiesWith(10), 4);
        check.same("dummiesWith(11)", x.dummiesWith(11), 0);
        check.same("dummiesWith(12)", x.dummiesWith(12), 7);
        check.same("dummiesWith(400)", x.dummiesWith(400), 7);
        check.same("dummiesWith(1)", x.dummiesWith(1), 0);
        check.same("dummiesWith(5)", x.dummiesWith(5), 4);
        check.same("quota as before", x.whole(2), 6);
        x.follow(2, 0);
        check.same("dummiesWith(12), players alone", x.dummiesWith(12), 3);
        check.refuses("dummiesWith(0)", x, ARGUMENT, () -> x.dummiesWith(0));
        check.refuses("dummiesWith(401)", x, ARGUMENT, () -> x.dummiesWith(401));
        check.same("dummiesWith(1) of nobody", new PivotChamber().dummiesWith(1), 0);
    }

    private void promise21() {
        check.topic("promise 21");
        PivotChamber x = chamber(10, 5, 5, 1);
        check.same("leastWeight(0)", x.leastWeight(0), 4);
        check.same("leastWeight(2)", x.leastWeight(2), 5);
        check.same("weight as before", x.member(2, 0), 1);
        x.follow(2, 1);
        check.same("leastWeight(1), whose follower has 1", x.leastWeight(1), 4);
        check.same("leastWeight(2), who is no player", x.leastWeight(2), -1);
        check.refuses("leastWeight(3)", x, PLACE, () -> x.leastWeight(3));
        check.refuses("leastWeight(-1)", x, PLACE, () -> x.leastWeight(-1));
        check.same("leastWeight(0) of 50", chamber(50, 1).leastWeight(0), 50);
        check.same("leastWeight(0) of 51", chamber(51, 1).leastWeight(0), -1);
        PivotChamber y = chamber(3, 9, 3);
        y.addRule(1, 0);
        check.same("leastWeight(0) by a rule", y.leastWeight(0), 0);
        y.addRule(1, 6);
        check.same("leastWeight(0) when a rule never holds", y.leastWeight(0), -1);
        PivotChamber z = chamber(1, 1, 0);
        z.follow(0, 1);
        check.same("leastWeight(1) when its follower suffices", z.leastWeight(1), 0);
    }

    private void promise22() {
        check.topic("promise 22");
        PivotChamber x = chamber(6, 4, 3, 2, 1);
        check.same("unionGain(0, 1)", x.unionGain(0, 1), 1.0 - (10.0 / 24.0 + 0.25));
        check.same("unionGain(3, 2)", x.unionGain(3, 2), 2.0 / 6.0 - (2.0 / 24.0 + 0.25));
        check.same("players as before", x.whole(1), 4);
        x.follow(3, 1);
        check.same("unionGain(2, 1), who has a bloc", x.unionGain(2, 1), 1.0 - (2.0 / 6.0 + 2.0 / 6.0));
        check.same("whom 3 follows", x.member(3, 1), 1);
        check.refuses("unionGain(4, 4)", x, PLACE, () -> x.unionGain(4, 4));
        check.refuses("unionGain(0, 4)", x, PLACE, () -> x.unionGain(0, 4));
        check.refuses("unionGain(-1, 0)", x, PLACE, () -> x.unionGain(-1, 0));
        check.refuses("unionGain(0, 0)", x, ARGUMENT, () -> x.unionGain(0, 0));
        check.refuses("unionGain(0, 3)", x, ARGUMENT, () -> x.unionGain(0, 3));
        check.refuses("unionGain(3, 0)", x, ARGUMENT, () -> x.unionGain(3, 0));
        PivotChamber y = chamber(6, 3, 3, 3);
        check.same("unionGain(0, 2)", y.unionGain(0, 2), 1.0 - (2.0 / 6.0 + 2.0 / 6.0));
        check.same("unionGain(0, 1) that loses", chamber(3, 1, 1, 1).unionGain(0, 1), 0.5 - (2.0 / 6.0 + 2.0 / 6.0));
    }

    private void promise23() {
        check.topic("promise 23");
        PivotChamber x = chamber(6, 4, 3, 2, 1);
        check.same("compare(0, 1)", x.compare(0, 1), 1);
        check.same("compare(1, 0)", x.compare(1, 0), -1);
        check.same("compare(1, 2)", x.compare(1, 2), 0);
        x.addRule(1, 3);
        check.same("compare(0, 3) by a rule", x.compare(0, 3), -1);
        x.setQuota(5);
        x.dropRule(0);
        x.addRule(0, 3);
        check.same("compare(2, 3)", x.compare(2, 3), 0);
        x.dropRule(0);
        x.follow(3, 2);
        check.refuses("compare(4, 4)", x, PLACE, () -> x.compare(4, 4));
        check.refuses("compare(0, -1)", x, PLACE, () -> x.compare(0, -1));
        check.refuses("compare(1, 1)", x, ARGUMENT, () -> x.compare(1, 1));
        check.refuses("compare(0, 3)", x, ARGUMENT, () -> x.compare(0, 3));
        check.refuses("compare(3, 0)", x, ARGUMENT, () -> x.compare(3, 0));
        // 0 brings weight, 1 with its follower brings heads: neither stands above the other.
        PivotChamber y = chamber(5, 5, 1, 1, 4, 0, 0);
        y.follow(2, 1);
        y.addRule(0, 3);
        check.same("compare(0, 1) of unlike ones", y.compare(0, 1), 2);
        check.same("compare(1, 0) of unlike ones", y.compare(1, 0), 2);
        check.same("compare of two dummies", chamber(5, 5, 1, 0).compare(1, 2), 0);
    }

    private void promise24() {
        check.topic("promise 24");
        PivotChamber x = new PivotChamber();
        check.refuses("type(-1)", x, ARGUMENT, () -> x.type(-1));
        check.refuses("type(128)", x, ARGUMENT, () -> x.type(128));
        check.same("type(0)", x.type(0), 1);
        check.same("type(127)", x.type(127), 2);
        for (int i = 3; i <= 150; i++) {
            check.same("type, number " + i, x.type(32), i);
        }
        check.refuses("type(32) when the text is full", x, STATE, () -> x.type(32));
        check.refuses("type(128) when the text is full", x, ARGUMENT, () -> x.type(128));
        check.refuses("undo() after typing", x, STATE, x::undo);
        check.same("length", x.whole(11), 150);
    }

    private void promise25() {
        check.topic("promise 25");
        PivotChamber x = new PivotChamber();
        check.same("clearCommands() of an empty text", x.clearCommands(), 0);
        write(x, "add 1;");
        check.same("clearCommands()", x.clearCommands(), 6);
        check.same("length", x.whole(11), 0);
        check.same("clearCommands() again", x.clearCommands(), 0);
        check.refuses("undo() after clearing", x, STATE, x::undo);
        check.same("type(32)", x.type(32), 1);
        check.same("what was there is gone", x.runCommands(), 0);
    }

    private void promise26() {
        check.topic("promise 26");
        PivotChamber x = new PivotChamber();
        check.same("runCommands() of an empty text", x.runCommands(), 0);
        check.same("is undoable", x.undo(), 0);
        check.same("spaces alone", runOf(x, "   "), 0);
        check.same("all commands", runOf(x, "add 4;add 3 ; add  2;quota 5;follow 2 1;leave 2;weight 0 7;rule 0 2;"
                + "rule 1 0;drop 0; "), 10);
        check.same("members", x.whole(0), 3);
        check.same("quota", x.whole(2), 5);
        check.same("whom 2 follows", x.member(2, 1), -1);
        check.same("weight of 0", x.member(0, 0), 7);
        check.same("rules", x.whole(3), 1);
        check.same("kind of the rule that is left", x.rule(0, 0), 1);
        check.same("the text stays", x.whole(11), 85);
        check.same("undo()", x.undo(), 1);
        check.same("the run is undone as one", x.whole(0), 0);
        check.same("the text stays at undo", x.whole(11), 85);
        check.same("quota after undo", x.whole(2), 1);
    }

    private void promise26Faults() {
        String[] texts = {
            "add 1;", "add 1 ;  ", "add 001;", "add 999;", "follow 0 1;", "add 1",
            "add", "ad", "addd", "addd 1;", "Add 1;", "add1;", "add;", "add ;", "add a;", "add 1234;", "add 0001;",
            "add 1 2;", "add 1a;", "follow 1;", "follow 1 ;", "follow 1", "follow 1 2", "follow 12", ";", "  ;", "1",
            "add 1;;", "add 1; x", "add 1;quotas 3;", "add 1; quota", "add 1;\t", "add\t1;", "add 1\u0000;", "add -1;",
            "add 1;weight 0 1 2;", "fooX", "foo", "foo;", "addX", "add ", "add 1 ", "weight 0  ", "a", "`", "{",
            "leave 0;rule 0 1;drop 0;q", "bdd 1;", "addz 1;", "adda 1;", "  zz 1;", "add /;", "add :;",
            "runs 1;", "follow 1 2345;"};
        int[] faults = {
            -1, -1, -1, -1, -1, 5,
            3, 0, 0, 0, 0, 3, 3, 4, 4, 7, 7,
            6, 5, 8, 9, 8, 10, 9, 0, 2, 0,
            6, 7, 6, 12, 6, 3, 5, 4,
            17, 0, 0, 0, 3, 4, 6, 10, 0, 0, 0,
            24, 0, 0, 0, 2, 4, 4, 0, 12};
        for (int i = 0; i < texts.length && i < faults.length; i++) {
            PivotChamber x = new PivotChamber();
            int got = runOf(x, texts[i]);
            String call = "runCommands() of '" + texts[i] + "'";
            if (faults[i] == -1) {
                check.holds(call + " has no fault", got >= 0);
                check.same("undo() behind a run", x.undo(), 0);
            } else {
                check.same(call, got, -10 - faults[i]);
                check.refuses("undo() behind a fault", x, STATE, x::undo);
                check.same("members behind a fault", x.whole(0), 0);
            }
        }
        check.same("as many faults as texts", texts.length, faults.length);
    }

    private void promise26Running() {
        PivotChamber x = new PivotChamber();
        check.same("stops at a weight out of range", runOf(x, "add 1;add 51;add 2;"), 1);
        check.same("members", x.whole(0), 1);
        check.same("states saved", x.undo(), 0);
        check.same("stops at once", runOf(x, "leave 0;add 2;"), 0);
        check.same("states saved by it", x.undo(), 0);
        check.same("stops at no such rule", runOf(x, "rule 2 255;drop 0;drop 0;add 1;"), 2);
        check.same("stops at a bad quota", runOf(x, "quota 400;quota 401;"), 1);
        check.same("quota", x.whole(2), 400);
        check.same("stops at a bad kind", runOf(x, "quota 001;rule 3 1;"), 1);
        check.same("stops at one who follows", runOf(x, "add 1;add 2;add 3;follow 0 1;follow 0 2;add 4;"), 4);
        check.same("stops at one's self", runOf(x, "leave 0;follow 2 2;"), 1);
        check.same("stops at the ninth", runOf(x, "add 1;add 1;add 1;add 1;add 1;add 1;"), 5);
        check.same("members", x.whole(0), 8);
        check.same("stops at no such member", runOf(x, "weight 7 50;weight 8 1;"), 1);
        check.same("stops at the fifth rule", runOf(x, "rule 0 1;rule 0 1;rule 0 1;rule 0 1;rule 0 1;"), 4);
        check.same("stops at a value 0 to a rule 0", runOf(x, "drop 3;rule 0 0;"), 1);
        check.same("the stack keeps four", x.undo(), 3);
        check.same("rules before the last run", x.whole(3), 4);
        PivotChamber z = chamber(3, 1, 2);
        check.same("winning sets before", z.whole(5), 1);
        check.same("another quota", runOf(z, "quota 1;"), 1);
        check.same("winning sets behind it", z.whole(5), 3);
        StringBuilder full = new StringBuilder();
        for (int i = 0; i < 16; i++) {
            full.append("quota 77;");
        }
        full.append("add 1;");
        PivotChamber y = new PivotChamber();
        check.same("a full text", runOf(y, full.toString()), 17);
        check.same("its length", y.whole(11), 150);
        check.same("its end", y.whole(0), 1);
        check.same("run again", y.runCommands(), 17);
        check.same("members after both runs", y.whole(0), 2);
    }

    private void promise27() {
        check.topic("promise 27");
        PivotChamber x = new PivotChamber();
        for (int i = 1; i <= 6; i++) {
            x.setQuota(i + 1);
        }
        for (int left = 3; left >= 0; left--) {
            check.same("undo()", x.undo(), left);
            check.same("quota", x.whole(2), left + 3);
        }
        check.refuses("a fifth undo()", x, STATE, x::undo);
        x.setQuota(9);
        check.same("undo() after a new call", x.undo(), 0);
        check.same("quota", x.whole(2), 3);
        PivotChamber y = chamber(3, 2, 1);
        y.follow(1, 0);
        y.addRule(0, 2);
        y.setWeight(0, 9);
        long before = y.digest();
        y.type(32);
        y.setQuota(5);
        y.clearCommands();
        y.undo();
        check.same("states", y.undo(), 2);
        check.same("states", y.undo(), 1);
        check.same("states", y.undo(), 0);
        check.same("members at the end of the stack", y.whole(0), 2);
        check.same("whom 1 follows", y.member(1, 1), -1);
        y.follow(1, 0);
        y.addRule(0, 2);
        y.setWeight(0, 9);
        check.holds("the same calls bring another number of saved states", y.digest() != before);
        long swings = y.member(0, 4);
        y.setQuota(11);
        check.same("swings after the quota", y.member(0, 4), 0);
        y.undo();
        check.same("swings after undo", y.member(0, 4), swings);
    }

    private void promise28() {
        check.topic("promise 28");
        PivotChamber x = new PivotChamber();
        check.same("digest() of a new object", x.digest(), hash(0, 0, 0, 1, 0, 0, 0, 0, 0, 0, 0, 0, 0));
        x.type(97);
        check.same("digest() with a text", x.digest(), hash(0, 0, 0, 1, 0, 0, 0, 0, 0, 0, 0, 0, 1));
        x.setQuota(400);
        check.same("digest() with a saved state", x.digest(), hash(1, 0, 0, 400, 0, 0, 0, 0, 0, 0, 0, 0, 1));
        check.same("digest() again", x.digest(), x.digest());
    }

    private static long hash(long... values) {
        long h = 43588;
        for (long value : values) {
            h = 31 * h + value;
        }
        return h;
    }

    private void promise28ByHand() {
        // Shares of less than a tenth, of which the bits go far down.
        PivotChamber eight = chamber(99, 50, 49, 48, 3, 2, 1, 0, 0);
        long h = hash(4, 8, 8, 99, 0, 153, 116, 6, 208, 192, 0, 0, 0);
        for (int m = 0; m < 8; m++) {
            for (int what = 0; what <= 7; what++) {
                h = 31 * h + eight.member(m, what);
            }
            h = 31 * h + Float.floatToIntBits(eight.share(m));
            h = 31 * h + Double.doubleToLongBits(eight.part(m));
        }
        for (int set : new int[] {3, 13, 14, 21, 22, 37}) {
            h = 31 * h + set;
        }
        check.same("digest() of eight", eight.digest(), h);
        check.holds("a share is less than a tenth", eight.share(3) > 0 && eight.share(3) < 0.1f);
        PivotChamber x = chamber(6, 4, 3, 2, 1);
        x.follow(3, 1);
        x.addRule(0, 2);
        x.addRule(1, 5);
        x.dropRule(1);
        int third = Float.floatToIntBits(1.0f / 3.0f);
        long part = Double.doubleToLongBits(2.0 / 6.0);
        check.same("digest()", x.digest(), hash(4,
                4, 3, 6, 1, 10, 4, 3, 6, 0, 0, 1, 0,
                4, -1, 0, 4, 2, 2, 0, 0, third, part,
                3, -1, 1, 4, 2, 2, 0, 0, third, part,
                2, -1, 0, 2, 2, 2, 0, 0, third, part,
                1, 1, 0, 0, 0, 0, 0, 0, 0, 0,
                0, 2, 1,
                3, 5, 6));
        PivotChamber alone = chamber(1, 1);
        check.same("digest() of one alone", alone.digest(), hash(2,
                1, 1, 1, 0, 1, 1, 1, 1, 0, 1, 0, 0,
                1, -1, 0, 1, 1, 1, 0, 1, Float.floatToIntBits(1.0f), Double.doubleToLongBits(1.0),
                1));
    }
}
