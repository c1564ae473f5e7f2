/**
 * Many runs of calls by a fixed sequence of numbers, each call put to the program and to the naive chamber; both must
 * answer the same, or throw the same.
 */
public final class RandomRunsTest {
    private static final int RUNS = 220;
    private static final int CALLS = 300;
    private static final String[] WORDS = {"add", "weight", "quota", "follow", "leave", "rule", "drop"};
    private static final int[] NUMBERS = {1, 2, 1, 2, 1, 2, 1};
    private static final int[] EDGES = {Integer.MIN_VALUE, Integer.MAX_VALUE, -1, -2, 12, 256, 401, 1 << 8, 1 << 31};

    private final Check check = new Check();
    private long state;
    private PivotChamber chamber;
    private NaiveChamber naive;

    public static void main(String[] args) {
        RandomRunsTest test = new RandomRunsTest();
        for (int run = 0; run < RUNS; run++) {
            test.run(run);
        }
        test.check.end("RandomRunsTest");
    }

    private int next(int bound) {
        state = state * 6364136223846793005L + 1442695040888963407L;
        return (int) ((state >>> 33) % bound);
    }

    /** Mostly 0 to bound - 1, at times just outside, at times far away. */
    private int near(int bound) {
        int dice = next(40);
        if (dice == 0) {
            return EDGES[next(EDGES.length)];
        }
        return dice == 1 ? bound : dice == 2 ? -1 : next(bound);
    }

    private void run(int run) {
        state = run * 7919L + 17;
        check.topic("random run " + run);
        chamber = new PivotChamber();
        naive = new NaiveChamber();
        int members = 2 + next(7);
        int most = next(3) == 0 ? 4 : 51;
        for (int i = 0; i < members; i++) {
            ask(0, next(most), 0);
        }
        ask(2, 1 + next(Math.max(1, naive.whole(4) + 2)), 0);
        for (int call = 0; call < CALLS; call++) {
            any(call);
        }
    }

    private void any(int call) {
        int members = Math.max(1, naive.whole(0));
        int dice = next(100);
        if (dice < 30) {
            change(members);
        } else if (dice < 75) {
            question(members);
        } else if (dice < 95) {
            texts(members);
        } else {
            ask(28, 0, 0);
        }
    }

    private void change(int members) {
        switch (next(8)) {
            case 0:
                ask(0, near(51), 0);
                break;
            case 1:
                ask(1, near(members), near(51));
                break;
            case 2:
                ask(2, 1 + next(Math.max(1, naive.whole(4))), 0);
                break;
            case 3:
                ask(2, near(401), 0);
                break;
            case 4:
                ask(3, near(members), near(members));
                break;
            case 5:
                ask(4, near(members), 0);
                break;
            case 6:
                newRule();
                break;
            default:
                ask(6, next(3) == 0 ? near(4) : next(Math.max(1, naive.whole(3))), 0);
        }
    }

    private void newRule() {
        int kind = near(3);
        ask(5, kind, kind == 0 ? near(next(2) == 0 ? 5 : 9) : kind == 1 ? near(8) : near(256));
    }

    private void question(int members) {
        switch (next(15)) {
            case 0:
                ask(9, near(members), near(8));
                break;
            case 1:
                ask(10, near(4), near(3));
                break;
            case 2:
                ask(11, near(12), 0);
                break;
            case 3:
                ask(12, near(1 << members), 0);
                break;
            case 4:
                ask(13, next(2) == 0 ? near(8) : near(71), 0);
                break;
            case 5:
                ask(14, near(members), 0);
                break;
            case 6:
                ask(15, near(members), 0);
                break;
            case 7:
                ask(16, near(1 << members), 0);
                break;
            case 8:
                ask(17, order(), 0);
                break;
            case 9:
                ask(18, near(members), near(401));
                break;
            case 10:
                ask(19, near(members), 0);
                break;
            case 11:
                ask(20, next(2) == 0 ? near(401) : 1 + next(Math.max(1, naive.whole(4))), 0);
                break;
            case 12:
                ask(21, near(members), 0);
                break;
            case 13:
                ask(22, near(members), near(members));
                break;
            default:
                ask(23, near(members), near(members));
        }
    }

    /** An order of all players, at times with a digit too many, too few or changed. */
    private int order() {
        StringBuilder digits = new StringBuilder();
        for (int m = 0; m < naive.whole(0); m++) {
            if (naive.member(m, 1) == -1) {
                digits.insert(next(digits.length() + 1), (char) ('1' + m));
            }
        }
        int dice = next(12);
        if (dice == 0) {
            digits.append((char) ('0' + next(10)));
        } else if (dice == 1 && digits.length() > 0) {
            digits.setCharAt(next(digits.length()), (char) ('0' + next(10)));
        } else if (dice == 2 && digits.length() > 0) {
            digits.deleteCharAt(next(digits.length()));
        }
        long order = digits.length() == 0 ? 0 : Long.parseLong(digits.toString());
        return dice == 3 ? near(100) : order > Integer.MAX_VALUE ? Integer.MAX_VALUE : (int) order;
    }

    private void texts(int members) {
        switch (next(6)) {
            case 0:
                ask(24, near(128), 0);
                break;
            case 1:
                ask(25, 0, 0);
                break;
            case 2:
            case 3:
                ask(27, 0, 0);
                break;
            default:
                if (next(3) != 0) {
                    ask(25, 0, 0);
                }
                write(text(members));
                ask(26, 0, 0);
        }
    }

    private void write(String text) {
        for (char sign : text.toCharArray()) {
            ask(24, sign, 0);
        }
    }

    private String text(int members) {
        StringBuilder text = new StringBuilder();
        for (int left = next(6); left > 0; left--) {
            int word = next(WORDS.length);
            text.append(spaces(0)).append(WORDS[word]);
            for (int i = 0; i < NUMBERS[word]; i++) {
                int usual = word == 2 ? 1 + next(100) : word == 5 ? next(3) : next(members);
                int number = next(15) == 0 ? next(1000) : usual;
                text.append(spaces(1)).append(next(6) == 0 ? "0" : "").append(number);
            }
            text.append(spaces(0)).append(';');
        }
        text.append(spaces(0));
        if (next(3) == 0 && text.length() > 0) {
            spoil(text);
        }
        return text.toString();
    }

    private String spaces(int atLeast) {
        return "    ".substring(0, atLeast + (next(4) == 0 ? next(3) : 0));
    }

    private void spoil(StringBuilder text) {
        int place = next(text.length());
        String signs = "az09; AZ:/`{";
        switch (next(4)) {
            case 0:
                text.deleteCharAt(place);
                break;
            case 1:
                text.insert(place, signs.charAt(next(signs.length())));
                break;
            case 2:
                text.setLength(place);
                break;
            default:
                text.setCharAt(place, (char) next(128));
        }
    }

    private void ask(int promise, int a, int b) {
        String got;
        String due;
        try {
            got = answer(promise, a, b);
        } catch (RuntimeException e) {
            got = e.getClass().getName();
        }
        try {
            due = naiveAnswer(promise, a, b);
        } catch (RuntimeException e) {
            due = e.getClass().getName();
        }
        check.same("call " + promise + " (" + a + ", " + b + ")", got, due);
    }

    private String answer(int promise, int a, int b) {
        switch (promise) {
            case 0:
                return "" + chamber.add(a);
            case 1:
                return "" + chamber.setWeight(a, b);
            case 2:
                return "" + chamber.setQuota(a);
            case 3:
                return "" + chamber.follow(a, b);
            case 4:
                return "" + chamber.leave(a);
            case 5:
                return "" + chamber.addRule(a, b);
            case 6:
                return "" + chamber.dropRule(a);
            case 9:
                return "" + chamber.member(a, b);
            case 10:
                return "" + chamber.rule(a, b);
            case 11:
                return "" + chamber.whole(a);
            case 12:
                return "" + chamber.wins(a);
            case 13:
                return "" + chamber.least(a);
            case 14:
                return "" + chamber.share(a);
            case 15:
                return "" + chamber.part(a);
            case 16:
                return "" + chamber.reason(a);
            case 17:
                return "" + chamber.pivot(a);
            case 18:
                return "" + chamber.swingsWith(a, b);
            case 19:
                return "" + chamber.bestQuota(a);
            case 20:
                return "" + chamber.dummiesWith(a);
            case 21:
                return "" + chamber.leastWeight(a);
            case 22:
                return "" + chamber.unionGain(a, b);
            case 23:
                return "" + chamber.compare(a, b);
            case 24:
                return "" + chamber.type(a);
            case 25:
                return "" + chamber.clearCommands();
            case 26:
                return "" + chamber.runCommands();
            case 27:
                return "" + chamber.undo();
            default:
                return "" + chamber.digest();
        }
    }

    private String naiveAnswer(int promise, int a, int b) {
        switch (promise) {
            case 0:
                return "" + naive.add(a);
            case 1:
                return "" + naive.setWeight(a, b);
            case 2:
                return "" + naive.setQuota(a);
            case 3:
                return "" + naive.follow(a, b);
            case 4:
                return "" + naive.leave(a);
            case 5:
                return "" + naive.addRule(a, b);
            case 6:
                return "" + naive.dropRule(a);
            case 9:
                return "" + naive.member(a, b);
            case 10:
                return "" + naive.rule(a, b);
            case 11:
                return "" + naive.whole(a);
            case 12:
                return "" + naive.wins(a);
            case 13:
                return "" + naive.least(a);
            case 14:
                return "" + naive.share(a);
            case 15:
                return "" + naive.part(a);
            case 16:
                return "" + naive.reason(a);
            case 17:
                return "" + naive.pivot(a);
            case 18:
                return "" + naive.swingsWith(a, b);
            case 19:
                return "" + naive.bestQuota(a);
            case 20:
                return "" + naive.dummiesWith(a);
            case 21:
                return "" + naive.leastWeight(a);
            case 22:
                return "" + naive.unionGain(a, b);
            case 23:
                return "" + naive.compare(a, b);
            case 24:
                return "" + naive.type(a);
            case 25:
                return "" + naive.clearCommands();
            case 26:
                return "" + naive.runCommands();
            case 27:
                return "" + naive.undo();
            default:
                return "" + naive.digest();
        }
    }
}
