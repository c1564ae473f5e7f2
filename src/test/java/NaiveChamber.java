import java.util.ArrayList;
import java.util.List;

/**
 * The document done again in the slowest and plainest way, with none of the program's ideas: sets are tried one by
 * one, orders are walked through, and what-if questions ask a changed copy.
 */
final class NaiveChamber {
    private static final String[] WORDS = {"add", "weight", "quota", "follow", "leave", "rule", "drop"};
    private static final int[] NUMBERS = {1, 2, 1, 2, 1, 2, 1};

    private List<Integer> weights = new ArrayList<>();
    private List<Integer> leaders = new ArrayList<>();
    private List<int[]> rules = new ArrayList<>();
    private int quota = 1;
    private String text = "";
    private final List<NaiveChamber> saved = new ArrayList<>();
    private int[] orderCounts;

    private NaiveChamber copy() {
        NaiveChamber other = new NaiveChamber();
        other.takeFrom(this);
        return other;
    }

    private void takeFrom(NaiveChamber other) {
        weights = new ArrayList<>(other.weights);
        leaders = new ArrayList<>(other.leaders);
        rules = new ArrayList<>(other.rules);
        quota = other.quota;
        orderCounts = null;
    }

    private void save() {
        saved.add(copy());
        if (saved.size() > 4) {
            saved.remove(0);
        }
        orderCounts = null;
    }

    private void needMember(int m) {
        if (m < 0 || m >= weights.size()) {
            throw new IndexOutOfBoundsException();
        }
    }

    private static void need(boolean condition) {
        if (!condition) {
            throw new IllegalArgumentException();
        }
    }

    private static void allow(boolean condition) {
        if (!condition) {
            throw new IllegalStateException();
        }
    }

    private boolean follows(int m) {
        return leaders.get(m) != -1;
    }

    private int followers(int m) {
        int n = 0;
        for (int leader : leaders) {
            n += leader == m ? 1 : 0;
        }
        return n;
    }

    private List<Integer> players() {
        List<Integer> all = new ArrayList<>();
        for (int m = 0; m < weights.size(); m++) {
            if (!follows(m)) {
                all.add(m);
            }
        }
        return all;
    }

    private boolean says(int m, int set) {
        return (set >> (follows(m) ? leaders.get(m) : m) & 1) == 1;
    }

    private int blocWeight(int player) {
        int sum = 0;
        for (int m = 0; m < weights.size(); m++) {
            if (m == player || leaders.get(m) == player) {
                sum += weights.get(m);
            }
        }
        return sum;
    }

    private boolean ruleHolds(int[] rule, int set) {
        int yes = 0;
        boolean named = false;
        boolean oneOf = false;
        for (int m = 0; m < weights.size(); m++) {
            if (says(m, set)) {
                yes++;
                named |= m == rule[1];
                oneOf |= (rule[1] >> m & 1) == 1;
            }
        }
        return rule[0] == 0 ? yes >= rule[1] : rule[0] == 1 ? named : oneOf;
    }

    private int why(int set) {
        int sum = 0;
        for (int m = 0; m < weights.size(); m++) {
            sum += says(m, set) ? weights.get(m) : 0;
        }
        if (sum < quota) {
            return 1;
        }
        for (int r = 0; r < rules.size(); r++) {
            if (!ruleHolds(rules.get(r), set)) {
                return 2 + r;
            }
        }
        return 0;
    }

    private boolean winning(int set) {
        return why(set) == 0;
    }

    private boolean ofPlayers(int set) {
        for (int m = 0; m < 8; m++) {
            if ((set >> m & 1) == 1 && (m >= weights.size() || follows(m))) {
                return false;
            }
        }
        return true;
    }

    private boolean winsOfPlayers(int set) {
        return ofPlayers(set) && winning(set);
    }

    private int swings(int player) {
        int n = 0;
        for (int set = 0; set < 256; set++) {
            if ((set >> player & 1) == 1 && winsOfPlayers(set) && !winning(set - (1 << player))) {
                n++;
            }
        }
        return n;
    }

    private int allSwings() {
        int n = 0;
        for (int player : players()) {
            n += swings(player);
        }
        return n;
    }

    private int[] orders() {
        if (orderCounts == null) {
            orderCounts = new int[8];
            walk(players(), 0, -1);
        }
        return orderCounts;
    }

    /** Goes through all orders, to the end of each; the pivot is the first with whom the set wins. */
    private void walk(List<Integer> left, int set, int pivot) {
        if (left.isEmpty() && pivot != -1) {
            orderCounts[pivot]++;
        }
        for (int i = 0; i < left.size(); i++) {
            int player = left.get(i);
            List<Integer> rest = new ArrayList<>(left);
            rest.remove(i);
            int now = set | 1 << player;
            walk(rest, now, pivot != -1 ? pivot : winning(now) ? player : -1);
        }
    }

    private List<Integer> leastSets() {
        List<Integer> found = new ArrayList<>();
        for (int set = 0; set < 256; set++) {
            boolean is = winsOfPlayers(set);
            for (int m = 0; m < 8 && is; m++) {
                is = (set >> m & 1) == 0 || !winning(set - (1 << m));
            }
            if (is) {
                found.add(set);
            }
        }
        return found;
    }

    private int winningCount() {
        int n = 0;
        for (int set = 0; set < 256; set++) {
            n += winsOfPlayers(set) ? 1 : 0;
        }
        return n;
    }

    private boolean dummy(int m) {
        return !follows(m) && swings(m) == 0;
    }

    private boolean needed(int m) {
        boolean some = false;
        for (int set = 0; set < 256; set++) {
            if (winsOfPlayers(set)) {
                some = true;
                if ((set >> m & 1) == 0) {
                    return false;
                }
            }
        }
        return some && !follows(m);
    }

    int add(int weight) {
        need(weight >= 0 && weight <= 50);
        allow(weights.size() < 8);
        save();
        weights.add(weight);
        leaders.add(-1);
        return weights.size() - 1;
    }

    int setWeight(int m, int weight) {
        needMember(m);
        need(weight >= 0 && weight <= 50);
        save();
        return weights.set(m, weight);
    }

    int setQuota(int value) {
        need(value >= 1 && value <= 400);
        save();
        int before = quota;
        quota = value;
        return before;
    }

    int follow(int m, int other) {
        needMember(m);
        needMember(other);
        need(m != other);
        allow(!follows(m) && followers(m) == 0 && !follows(other));
        save();
        leaders.set(m, other);
        return blocWeight(other);
    }

    int leave(int m) {
        needMember(m);
        allow(follows(m));
        save();
        return leaders.set(m, -1);
    }

    int addRule(int kind, int value) {
        need(kind >= 0 && kind <= 2);
        need(kind == 0 ? value >= 1 && value <= 8 : kind == 1 ? value >= 0 && value <= 7 : value >= 1 && value <= 255);
        allow(rules.size() < 4);
        save();
        rules.add(new int[] {kind, value});
        return rules.size() - 1;
    }

    int dropRule(int r) {
        if (r < 0 || r >= rules.size()) {
            throw new IndexOutOfBoundsException();
        }
        save();
        rules.remove(r);
        return rules.size();
    }

    int member(int m, int what) {
        needMember(m);
        need(what >= 0 && what <= 7);
        switch (what) {
            case 0:
                return weights.get(m);
            case 1:
                return leaders.get(m);
            case 2:
                return followers(m);
            case 3:
                return follows(m) ? 0 : blocWeight(m);
            case 4:
                return swings(m);
            case 5:
                return orders()[m];
            case 6:
                return dummy(m) ? 1 : 0;
            default:
                return needed(m) ? 1 : 0;
        }
    }

    int rule(int r, int what) {
        if (r < 0 || r >= rules.size()) {
            throw new IndexOutOfBoundsException();
        }
        need(what >= 0 && what <= 2);
        return what < 2 ? rules.get(r)[what] : ruleHolds(rules.get(r), 255) ? 1 : 0;
    }

    int whole(int what) {
        need(what >= 0 && what <= 11);
        int answer = 0;
        switch (what) {
            case 0:
                return weights.size();
            case 1:
                return players().size();
            case 2:
                return quota;
            case 3:
                return rules.size();
            case 4:
                for (int weight : weights) {
                    answer += weight;
                }
                return answer;
            case 5:
                return winningCount();
            case 6:
                return leastSets().size();
            case 7:
                return allSwings();
            case 8:
                for (int m = 0; m < weights.size(); m++) {
                    answer |= dummy(m) ? 1 << m : 0;
                }
                return answer;
            case 9:
                for (int m = 0; m < weights.size(); m++) {
                    answer |= needed(m) ? 1 << m : 0;
                }
                return answer;
            case 10:
                for (int[] rule : rules) {
                    answer += rule[0] == rules.get(0)[0] ? 1 : 0;
                }
                return answer;
            default:
                return text.length();
        }
    }

    private void needSet(int set) {
        need(set >= 0 && set <= 255);
        need(set >> weights.size() == 0);
    }

    int wins(int set) {
        needSet(set);
        return winning(set) ? 1 : 0;
    }

    int least(int index) {
        need(index >= 0);
        List<Integer> all = leastSets();
        return index < all.size() ? all.get(index) : -1;
    }

    float share(int m) {
        needMember(m);
        return follows(m) || allSwings() == 0 ? 0.0f : (float) swings(m) / (float) allSwings();
    }

    double part(int m) {
        needMember(m);
        int all = 1;
        for (int i = 2; i <= players().size(); i++) {
            all *= i;
        }
        return follows(m) ? 0.0 : (double) orders()[m] / (double) all;
    }

    int reason(int set) {
        needSet(set);
        return why(set);
    }

    int pivot(int order) {
        need(order >= 0);
        String digits = order == 0 ? "" : String.valueOf(order);
        List<Integer> missing = players();
        int pivot = -1;
        int set = 0;
        for (char digit : digits.toCharArray()) {
            Integer player = digit - '1';
            need(missing.remove(player));
            set |= 1 << player;
            if (pivot == -1 && winning(set)) {
                pivot = player;
            }
        }
        need(missing.isEmpty());
        return pivot;
    }

    private NaiveChamber with(int otherQuota) {
        NaiveChamber other = copy();
        other.quota = otherQuota;
        return other;
    }

    int swingsWith(int m, int value) {
        needMember(m);
        need(value >= 1 && value <= 400);
        return with(value).swings(m);
    }

    int bestQuota(int m) {
        needMember(m);
        int best = -1;
        long bestOwn = 0;
        long bestAll = 1;
        for (int value = 1; value <= whole(4); value++) {
            NaiveChamber other = with(value);
            long own = other.swings(m);
            long all = other.allSwings();
            if (own > 0 && own * bestAll > bestOwn * all) {
                best = value;
                bestOwn = own;
                bestAll = all;
            }
        }
        return best;
    }

    int dummiesWith(int value) {
        need(value >= 1 && value <= 400);
        return with(value).whole(8);
    }

    int leastWeight(int m) {
        needMember(m);
        for (int weight = 0; weight <= 50; weight++) {
            NaiveChamber other = copy();
            other.weights.set(m, weight);
            if (!follows(m) && !other.dummy(m)) {
                return weight;
            }
        }
        return -1;
    }

    private void needPlayers(int m, int other) {
        needMember(m);
        needMember(other);
        need(m != other && !follows(m) && !follows(other));
    }

    double unionGain(int m, int other) {
        needPlayers(m, other);
        NaiveChamber union = copy();
        for (int i = 0; i < weights.size(); i++) {
            if (i == other || leaders.get(i) == other) {
                union.leaders.set(i, m);
            }
        }
        return union.part(m) - (part(m) + part(other));
    }

    int compare(int m, int other) {
        needPlayers(m, other);
        boolean onlyFirst = false;
        boolean onlySecond = false;
        for (int set = 0; set < 256; set++) {
            if (ofPlayers(set) && (set >> m & 1) == 0 && (set >> other & 1) == 0) {
                boolean first = winning(set | 1 << m);
                boolean second = winning(set | 1 << other);
                onlyFirst |= first && !second;
                onlySecond |= second && !first;
            }
        }
        return onlyFirst && onlySecond ? 2 : onlyFirst ? 1 : onlySecond ? -1 : 0;
    }

    int type(int value) {
        need(value >= 0 && value <= 127);
        allow(text.length() < 150);
        text += (char) value;
        return text.length();
    }

    int clearCommands() {
        int length = text.length();
        text = "";
        return length;
    }

    private static int wordNumber(String word) {
        for (int i = 0; i < WORDS.length; i++) {
            if (WORDS[i].equals(word)) {
                return i;
            }
        }
        return -1;
    }

    /** One byte after the other, with what may follow; byte -1 stands for the end of the text. */
    static int fault(String text) {
        String place = "start";
        int wordStart = 0;
        int left = 0;
        int digits = 0;
        for (int i = 0; i <= text.length(); i++) {
            int c = i < text.length() ? text.charAt(i) : -1;
            boolean letter = c >= 'a' && c <= 'z';
            boolean digit = c >= '0' && c <= '9';
            if (place.equals("start")) {
                if (c == -1) {
                    return -1;
                }
                if (letter) {
                    place = "word";
                    wordStart = i;
                } else if (c != ' ') {
                    return i;
                }
            } else if (place.equals("word")) {
                if (letter) {
                    continue;
                }
                int word = wordNumber(text.substring(wordStart, i));
                if (word == -1) {
                    return wordStart;
                }
                if (c != ' ') {
                    return i;
                }
                left = NUMBERS[word];
                place = "gap";
            } else if (place.equals("gap")) {
                if (digit) {
                    place = "number";
                    digits = 1;
                } else if (c != ' ') {
                    return i;
                }
            } else if (place.equals("number")) {
                if (digit && digits < 3) {
                    digits++;
                } else if (c == ' ') {
                    left--;
                    place = left > 0 ? "gap" : "close";
                } else if (c == ';' && left == 1) {
                    place = "start";
                } else {
                    return i;
                }
            } else if (c == ';') {
                place = "start";
            } else if (c != ' ') {
                return i;
            }
        }
        return -1;
    }

    private void runOne(String command) {
        String[] pieces = command.trim().split(" +");
        int a = Integer.parseInt(pieces[1]);
        int b = pieces.length > 2 ? Integer.parseInt(pieces[2]) : 0;
        switch (wordNumber(pieces[0])) {
            case 0:
                add(a);
                break;
            case 1:
                setWeight(a, b);
                break;
            case 2:
                setQuota(a);
                break;
            case 3:
                follow(a, b);
                break;
            case 4:
                leave(a);
                break;
            case 5:
                addRule(a, b);
                break;
            default:
                dropRule(a);
        }
    }

    int runCommands() {
        int fault = fault(text);
        if (fault != -1) {
            return -10 - fault;
        }
        save();
        List<NaiveChamber> kept = new ArrayList<>(saved);
        int done = 0;
        for (String command : text.split(";")) {
            if (command.trim().isEmpty()) {
                continue;
            }
            try {
                runOne(command);
            } catch (RuntimeException e) {
                break;
            }
            done++;
        }
        saved.clear();
        saved.addAll(kept);
        return done;
    }

    int undo() {
        allow(!saved.isEmpty());
        takeFrom(saved.remove(saved.size() - 1));
        return saved.size();
    }

    long digest() {
        List<Long> values = new ArrayList<>();
        values.add((long) saved.size());
        for (int what = 0; what <= 11; what++) {
            values.add((long) whole(what));
        }
        for (int m = 0; m < weights.size(); m++) {
            for (int what = 0; what <= 7; what++) {
                values.add((long) member(m, what));
            }
            values.add((long) Float.floatToIntBits(share(m)));
            values.add(Double.doubleToLongBits(part(m)));
        }
        for (int r = 0; r < rules.size(); r++) {
            for (int what = 0; what <= 2; what++) {
                values.add((long) rule(r, what));
            }
        }
        for (int set : leastSets()) {
            values.add((long) set);
        }
        long h = 43588;
        for (long v : values) {
            h = 31 * h + v;
        }
        return h;
    }
}
