/** A chamber whose members vote with weights; see README.md for how to use it. */
public final class PivotChamber {
    public static final int NONE = -1;

    private static final int MOST_MEMBERS = 8;
    private static final int MOST_WEIGHT = 50;
    private static final int MOST_QUOTA = 400;
    private static final int MOST_RULES = 4;
    private static final int MOST_SAVED = 4;
    private static final int MOST_BYTES = 150;
    private static final int MOST_DIGITS = 3;
    private static final int SETS = 256;
    /** Far above the halvings that a double can need to reach its exponent. */
    private static final int MOST_HALVINGS = 1100;

    /** What a call would throw: nothing, or one of the three kinds that the face knows. */
    private static final int FINE = 0;
    private static final int NO_SUCH_PLACE = 1;
    private static final int BAD_ARGUMENT = 2;
    private static final int BAD_STATE = 3;

    private static final int[] FACTORIALS = {1, 1, 2, 6, 24, 120, 720, 5040, 40320};
    private static final Command[] COMMANDS = Command.values();

    private final Setting setting = new Setting();
    private final Power power = new Power();
    /** Whether the power still has to be measured, as the setting has changed since. */
    private boolean stale = true;
    private final Setting otherSetting = new Setting();
    private final Power otherPower = new Power();
    private final SavedSettings saved = new SavedSettings();
    private final CommandText text = new CommandText();

    public PivotChamber() {
    }

    // ---- members and rules

    public int add(int weight) throws IllegalArgumentException, IllegalStateException {
        return perform(Command.ADD, weight, 0);
    }

    public int setWeight(int member, int weight) throws IndexOutOfBoundsException, IllegalArgumentException {
        return perform(Command.WEIGHT, member, weight);
    }

    public int setQuota(int quota) throws IllegalArgumentException {
        return perform(Command.QUOTA, quota, 0);
    }

    public int follow(int member, int other)
            throws IndexOutOfBoundsException, IllegalArgumentException, IllegalStateException {
        return perform(Command.FOLLOW, member, other);
    }

    public int leave(int member) throws IndexOutOfBoundsException, IllegalStateException {
        return perform(Command.LEAVE, member, 0);
    }

    public int addRule(int kind, int value) throws IllegalArgumentException, IllegalStateException {
        return perform(Command.RULE, kind, value);
    }

    public int dropRule(int rule) throws IndexOutOfBoundsException {
        return perform(Command.DROP, rule, 0);
    }

    // ---- values

    public int member(int member, int what) throws IndexOutOfBoundsException, IllegalArgumentException {
        refuse(setting.faultOfMember(member));
        refuse(faultOfRange(what, 0, 7));
        return memberValue(measured(), member, what);
    }

    public int rule(int rule, int what) throws IndexOutOfBoundsException, IllegalArgumentException {
        refuse(setting.faultOfRule(rule));
        refuse(faultOfRange(what, 0, 2));
        return setting.ruleValue(rule, what);
    }

    public int whole(int what) throws IllegalArgumentException {
        refuse(faultOfRange(what, 0, 11));
        return wholeValue(measured(), what);
    }

    public int wins(int set) throws IllegalArgumentException {
        refuse(setting.faultOfSet(set));
        return measured().isWinning(set) ? 1 : 0;
    }

    public int least(int index) throws IllegalArgumentException {
        refuse(index < 0 ? BAD_ARGUMENT : FINE);
        Power now = measured();
        return index < now.leastCount ? now.leastSets.at(index) : NONE;
    }

    public float share(int member) throws IndexOutOfBoundsException {
        refuse(setting.faultOfMember(member));
        return measured().shareOf(member);
    }

    public double part(int member) throws IndexOutOfBoundsException {
        refuse(setting.faultOfMember(member));
        return measured().partOf(member);
    }

    // ---- what if, which changes nothing

    public int reason(int set) throws IllegalArgumentException {
        refuse(setting.faultOfSet(set));
        int yes = measured().yesSayers.at(set);
        if (setting.weightOf(yes) < setting.quota) {
            return 1;
        }
        int broken = setting.firstBrokenRule(yes);
        return broken == NONE ? 0 : 2 + broken;
    }

    public int pivot(int order) throws IllegalArgumentException {
        refuse(setting.faultOfOrder(order));
        return measured().pivotOf(order);
    }

    public int swingsWith(int member, int quota) throws IndexOutOfBoundsException, IllegalArgumentException {
        refuse(setting.faultOfMember(member));
        refuse(faultOfRange(quota, 1, MOST_QUOTA));
        return measuredWith(quota).swings.at(member);
    }

    public int bestQuota(int member) throws IndexOutOfBoundsException {
        refuse(setting.faultOfMember(member));
        return measured().bestQuotaFor(member, setting.weightOf(setting.everybody()));
    }

    public int dummiesWith(int quota) throws IllegalArgumentException {
        refuse(faultOfRange(quota, 1, MOST_QUOTA));
        return measuredWith(quota).dummies();
    }

    public int leastWeight(int member) throws IndexOutOfBoundsException {
        refuse(setting.faultOfMember(member));
        int best = MOST_WEIGHT + 1;
        Power now = measured();
        for (int set = 0; set < SETS; set++) {
            if (now.isSetOfPlayers(set) && contains(set, member)) {
                best = Math.min(best, weightToSwing(now, member, set));
            }
        }
        return best > MOST_WEIGHT ? NONE : best;
    }

    public double unionGain(int member, int other) throws IndexOutOfBoundsException, IllegalArgumentException {
        refuse(setting.faultOfPlayers(member, other));
        double apart = measured().partOf(member) + measured().partOf(other);
        otherSetting.copyFrom(setting);
        otherSetting.unite(member, other);
        otherPower.measure(otherSetting);
        return otherPower.partOf(member) - apart;
    }

    public int compare(int member, int other) throws IndexOutOfBoundsException, IllegalArgumentException {
        refuse(setting.faultOfPlayers(member, other));
        boolean above = measured().isNeverBelow(member, other);
        boolean below = measured().isNeverBelow(other, member);
        if (above) {
            return below ? 0 : 1;
        }
        return below ? -1 : 2;
    }

    // ---- command text, undo and checksum

    public int type(int value) throws IllegalArgumentException, IllegalStateException {
        refuse(faultOfRange(value, 0, 127));
        refuse(text.length >= MOST_BYTES ? BAD_STATE : FINE);
        return text.append(value);
    }

    public int clearCommands() {
        int before = text.length;
        text.length = 0;
        return before;
    }

    public int runCommands() {
        int fault = text.findFault();
        if (fault != NONE) {
            return -10 - fault;
        }
        saved.keep(setting);
        stale = true;
        return carryOutText();
    }

    public int undo() throws IllegalStateException {
        refuse(saved.count == 0 ? BAD_STATE : FINE);
        saved.giveBack(setting);
        stale = true;
        return saved.count;
    }

    public long digest() {
        Power now = measured();
        long hash = mixed(43588L, saved.count);
        for (int what = 0; what <= 11; what++) {
            hash = mixed(hash, wholeValue(now, what));
        }
        for (int member = 0; member < setting.members; member++) {
            for (int what = 0; what <= 7; what++) {
                hash = mixed(hash, memberValue(now, member, what));
            }
            hash = mixed(hash, bitsOf(now.shareOf(member), 127, 23));
            hash = mixed(hash, bitsOf(now.partOf(member), 1023, 52));
        }
        for (int rule = 0; rule < setting.rules; rule++) {
            for (int what = 0; what <= 2; what++) {
                hash = mixed(hash, setting.ruleValue(rule, what));
            }
        }
        for (int index = 0; index < now.leastCount; index++) {
            hash = mixed(hash, now.leastSets.at(index));
        }
        return hash;
    }

    private static void refuse(int fault) {
        if (fault == NO_SUCH_PLACE) {
            throw new IndexOutOfBoundsException("there is no such member or rule");
        }
        if (fault == BAD_ARGUMENT) {
            throw new IllegalArgumentException("an argument is out of range");
        }
        if (fault == BAD_STATE) {
            throw new IllegalStateException("the chamber does not allow that now");
        }
    }

    private static int faultOfRange(int value, int from, int to) {
        return value < from || value > to ? BAD_ARGUMENT : FINE;
    }

    private static boolean contains(int set, int member) {
        return (set >> member & 1) == 1;
    }

    /** In how many orders so many players can stand; 0 for a number of players that no chamber has. */
    private static int factorial(int number) {
        return number >= 0 && number < FACTORIALS.length ? FACTORIALS[number] : 0;
    }

    private static long mixed(long hash, long value) {
        return 31 * hash + value;
    }

    /** The bits of a number from 0 to 1 as a binary fraction, as the library that does it is not allowed here. */
    private static long bitsOf(double value, int bias, int fractionBits) {
        if (!(value > 0.0)) {
            return 0L;
        }
        double scaled = value;
        int halvings = 0;
        for (; halvings < MOST_HALVINGS && scaled < 1.0; halvings++) {
            scaled = scaled * 2.0;
        }
        long fraction = (long) ((scaled - 1.0) * (double) (1L << fractionBits));
        return ((long) (bias - halvings) << fractionBits) + fraction;
    }

    private int memberValue(Power now, int member, int what) {
        return what < 4 ? setting.memberValue(member, what) : now.memberValue(member, what);
    }

    private int wholeValue(Power now, int what) {
        if (what == 11) {
            return text.length;
        }
        return what < 5 || what == 10 ? setting.wholeValue(what) : now.wholeValue(what);
    }

    private int perform(Command command, int first, int second) {
        refuse(setting.faultOf(command, first, second));
        saved.keep(setting);
        stale = true;
        return setting.carryOut(command, first, second);
    }

    private int carryOutText() {
        text.place = 0;
        int done = 0;
        for (; done < MOST_BYTES && text.hasCommand(); done++) {
            text.readCommand();
            if (setting.faultOf(text.command, text.first, text.second) != FINE) {
                return done;
            }
            setting.carryOut(text.command, text.first, text.second);
        }
        return done;
    }

    private Power measured() {
        if (stale) {
            power.measure(setting);
            stale = false;
        }
        return power;
    }

    private Power measuredWith(int quota) {
        otherSetting.copyFrom(setting);
        otherSetting.quota = quota;
        otherPower.measure(otherSetting);
        return otherPower;
    }

    /** The least weight by which the member would swing the set; too great a one if no weight does that. */
    private int weightToSwing(Power now, int member, int set) {
        int yes = now.yesSayers.at(set);
        // The set without the player does not depend on the player's weight.
        if (setting.firstBrokenRule(yes) != NONE || now.isWinning(set & ~(1 << member))) {
            return MOST_WEIGHT + 1;
        }
        return Math.max(0, setting.quota - (setting.weightOf(yes) - setting.weights.at(member)));
    }

    /** The commands of the text, which are the undoable calls of the face too. */
    private enum Command {
        ADD("add", 1),
        WEIGHT("weight", 2),
        QUOTA("quota", 1),
        FOLLOW("follow", 2),
        LEAVE("leave", 1),
        RULE("rule", 2),
        DROP("drop", 1);

        private final String word;
        private final int numbers;

        Command(String word, int numbers) {
            this.word = word;
            this.numbers = numbers;
        }
    }

    /** Numbers side by side; outside of the row there are zeros that stay. */
    private static final class Row {
        private final int[] cells;

        Row(int length) {
            cells = new int[length < 0 ? 0 : length];
        }

        int at(int index) {
            return index >= 0 && index < cells.length ? cells[index] : 0;
        }

        void put(int index, int value) {
            if (index >= 0 && index < cells.length) {
                cells[index] = value;
            }
        }

        void raise(int index, int by) {
            if (index >= 0 && index < cells.length) {
                cells[index] += by;
            }
        }

        void empty() {
            for (int i = 0; i < cells.length; i++) {
                cells[i] = 0;
            }
        }

        void copyFrom(Row source) {
            for (int i = 0; i < cells.length; i++) {
                cells[i] = source.at(i);
            }
        }
    }

    /** The members and rules: the whole state but the command text. */
    private static final class Setting {
        private int members;
        private final Row weights = new Row(MOST_MEMBERS);
        private final Row leaders = new Row(MOST_MEMBERS);
        private int quota = 1;
        private int rules;
        private final Row kinds = new Row(MOST_RULES);
        private final Row values = new Row(MOST_RULES);

        void copyFrom(Setting source) {
            members = source.members;
            weights.copyFrom(source.weights);
            leaders.copyFrom(source.leaders);
            quota = source.quota;
            rules = source.rules;
            kinds.copyFrom(source.kinds);
            values.copyFrom(source.values);
        }

        int faultOf(Command command, int first, int second) {
            if (command == null) {
                return BAD_ARGUMENT;
            }
            switch (command) {
                case ADD:
                    return worse(faultOfRange(first, 0, MOST_WEIGHT), members >= MOST_MEMBERS ? BAD_STATE : FINE);
                case WEIGHT:
                    return worse(faultOfMember(first), faultOfRange(second, 0, MOST_WEIGHT));
                case QUOTA:
                    return faultOfRange(first, 1, MOST_QUOTA);
                case FOLLOW:
                    return worse(faultOfTwo(first, second), mayFollow(first, second) ? FINE : BAD_STATE);
                case LEAVE:
                    return worse(faultOfMember(first), isPlayer(first) ? BAD_STATE : FINE);
                case RULE:
                    return worse(faultOfNewRule(first, second), rules >= MOST_RULES ? BAD_STATE : FINE);
                case DROP:
                    return faultOfRule(first);
                default:
                    return BAD_ARGUMENT;
            }
        }

        /** Does what the command says, which must have no fault. */
        int carryOut(Command command, int first, int second) {
            if (command == null) {
                return NONE;
            }
            switch (command) {
                case ADD:
                    return enrol(first);
                case WEIGHT:
                    return weigh(first, second);
                case QUOTA:
                    return changeQuota(first);
                case FOLLOW:
                    leaders.put(first, second);
                    return weightOf(blocOf(second));
                case LEAVE:
                    return release(first);
                case RULE:
                    return appendRule(first, second);
                case DROP:
                    return removeRule(first);
                default:
                    return NONE;
            }
        }

        /** The fault that is listed first, if there are several. */
        private static int worse(int fault, int later) {
            return fault != FINE ? fault : later;
        }

        int faultOfMember(int member) {
            return hasMember(member) ? FINE : NO_SUCH_PLACE;
        }

        int faultOfRule(int rule) {
            return rule < 0 || rule >= rules ? NO_SUCH_PLACE : FINE;
        }

        int faultOfTwo(int member, int other) {
            if (!hasMember(member) || !hasMember(other)) {
                return NO_SUCH_PLACE;
            }
            return member == other ? BAD_ARGUMENT : FINE;
        }

        int faultOfPlayers(int member, int other) {
            return worse(faultOfTwo(member, other), isPlayer(member) && isPlayer(other) ? FINE : BAD_ARGUMENT);
        }

        int faultOfSet(int set) {
            return faultOfRange(set, 0, everybody());
        }

        int faultOfNewRule(int kind, int value) {
            switch (kind) {
                case 0:
                    return faultOfRange(value, 1, MOST_MEMBERS);
                case 1:
                    return faultOfRange(value, 0, MOST_MEMBERS - 1);
                case 2:
                    return faultOfRange(value, 1, SETS - 1);
                default:
                    return BAD_ARGUMENT;
            }
        }

        int faultOfOrder(int order) {
            if (order < 0) {
                return BAD_ARGUMENT;
            }
            int missing = players();
            int rest = order;
            // No number has more digits than members and two.
            for (int i = 0; i < MOST_MEMBERS + 2 && rest > 0; i++) {
                int player = rest % 10 - 1;
                if (player < 0 || !contains(missing, player)) {
                    return BAD_ARGUMENT;
                }
                missing &= ~(1 << player);
                rest = rest / 10;
            }
            return missing == 0 ? FINE : BAD_ARGUMENT;
        }

        boolean hasMember(int member) {
            return member >= 0 && member < members;
        }

        boolean isPlayer(int member) {
            return hasMember(member) && leaders.at(member) == NONE;
        }

        private boolean mayFollow(int member, int other) {
            return isPlayer(member) && blocOf(member) == 1 << member && isPlayer(other);
        }

        int everybody() {
            return (1 << members) - 1;
        }

        int players() {
            int set = 0;
            for (int member = 0; member < members; member++) {
                if (isPlayer(member)) {
                    set |= 1 << member;
                }
            }
            return set;
        }

        /** A player and all who follow it; nobody, if it is no player. */
        int blocOf(int player) {
            if (!isPlayer(player)) {
                return 0;
            }
            int bloc = 1 << player;
            for (int member = 0; member < members; member++) {
                if (leaders.at(member) == player) {
                    bloc |= 1 << member;
                }
            }
            return bloc;
        }

        int weightOf(int set) {
            int sum = 0;
            for (int member = 0; member < members; member++) {
                if (contains(set, member)) {
                    sum += weights.at(member);
                }
            }
            return sum;
        }

        private boolean isKept(int rule, int yes) {
            int value = values.at(rule);
            switch (kinds.at(rule)) {
                case 0:
                    return Integer.bitCount(yes) >= value;
                case 1:
                    return contains(yes, value);
                default:
                    return (yes & value) != 0;
            }
        }

        int firstBrokenRule(int yes) {
            for (int rule = 0; rule < rules; rule++) {
                if (!isKept(rule, yes)) {
                    return rule;
                }
            }
            return NONE;
        }

        int memberValue(int member, int what) {
            switch (what) {
                case 0:
                    return weights.at(member);
                case 1:
                    return leaders.at(member);
                case 2:
                    return isPlayer(member) ? Integer.bitCount(blocOf(member)) - 1 : 0;
                default:
                    return weightOf(blocOf(member));
            }
        }

        int ruleValue(int rule, int what) {
            switch (what) {
                case 0:
                    return kinds.at(rule);
                case 1:
                    return values.at(rule);
                default:
                    return isKept(rule, everybody()) ? 1 : 0;
            }
        }

        int wholeValue(int what) {
            switch (what) {
                case 0:
                    return members;
                case 1:
                    return Integer.bitCount(players());
                case 2:
                    return quota;
                case 3:
                    return rules;
                case 4:
                    return weightOf(everybody());
                default:
                    return rulesLikeTheFirst();
            }
        }

        private int rulesLikeTheFirst() {
            int alike = 0;
            for (int rule = 0; rule < rules; rule++) {
                if (kinds.at(rule) == kinds.at(0)) {
                    alike++;
                }
            }
            return alike;
        }

        private int enrol(int weight) {
            weights.put(members, weight);
            leaders.put(members, NONE);
            members++;
            return members - 1;
        }

        private int weigh(int member, int weight) {
            int before = weights.at(member);
            weights.put(member, weight);
            return before;
        }

        private int changeQuota(int next) {
            int before = quota;
            quota = next;
            return before;
        }

        private int release(int member) {
            int before = leaders.at(member);
            leaders.put(member, NONE);
            return before;
        }

        private int appendRule(int kind, int value) {
            kinds.put(rules, kind);
            values.put(rules, value);
            rules++;
            return rules - 1;
        }

        private int removeRule(int gone) {
            rules--;
            for (int rule = gone; rule < rules; rule++) {
                kinds.put(rule, kinds.at(rule + 1));
                values.put(rule, values.at(rule + 1));
            }
            return rules;
        }

        /** Lets a player and all of its bloc follow another player. */
        void unite(int leader, int other) {
            int bloc = blocOf(other);
            for (int member = 0; member < members; member++) {
                if (contains(bloc, member)) {
                    leaders.put(member, leader);
                }
            }
        }
    }

    /** What a setting brings its players. */
    private static final class Power {
        private int players;
        private int quota;
        /** By set of members: all who say yes then. */
        private final Row yesSayers = new Row(SETS);
        /** By set of members: the weight of all who say yes, or 0, which no quota is, if a rule is broken. */
        private final Row strengths = new Row(SETS);
        private int winningCount;
        private int inAllWinning;
        private int leastCount;
        private final Row leastSets = new Row(SETS);
        private final Row swings = new Row(MOST_MEMBERS);
        private final Row orders = new Row(MOST_MEMBERS);
        private int allSwings;
        /** By quota: by how much the swings of a player, or of all, differ from those by the quota before. */
        private final Row ownSteps = new Row(MOST_QUOTA + 2);
        private final Row allSteps = new Row(MOST_QUOTA + 2);

        void measure(Setting setting) {
            players = setting.players();
            quota = setting.quota;
            findYesSayers(setting);
            findStrengths(setting);
            winningCount = 0;
            inAllWinning = players;
            leastCount = 0;
            allSwings = 0;
            swings.empty();
            orders.empty();
            for (int set = 0; set < SETS; set++) {
                if (isSetOfPlayers(set) && isWinning(set)) {
                    countWinning(set);
                }
            }
        }

        private void findYesSayers(Setting setting) {
            yesSayers.empty();
            for (int member = 0; member < MOST_MEMBERS; member++) {
                int bloc = setting.blocOf(member);
                // The sets whose last member this is: those without it stand ready before them.
                for (int set = 1 << member; set < 2 << member; set++) {
                    yesSayers.put(set, yesSayers.at(set - (1 << member)) | bloc);
                }
            }
        }

        private void findStrengths(Setting setting) {
            strengths.empty();
            int everybody = setting.everybody();
            for (int set = 0; set <= everybody && set < SETS; set++) {
                int yes = yesSayers.at(set);
                strengths.put(set, setting.firstBrokenRule(yes) == NONE ? setting.weightOf(yes) : 0);
            }
        }

        private void countWinning(int set) {
            winningCount++;
            inAllWinning &= set;
            int size = Integer.bitCount(set);
            int ordersOfSwing = factorial(size - 1) * factorial(playerCount() - size);
            int swingers = 0;
            for (int player = 0; player < MOST_MEMBERS; player++) {
                if (contains(set, player) && !isWinning(set & ~(1 << player))) {
                    swingers++;
                    swings.raise(player, 1);
                    // Those before the player in any order, and those behind it likewise.
                    orders.raise(player, ordersOfSwing);
                }
            }
            allSwings += swingers;
            if (swingers == size) {
                leastSets.put(leastCount, set);
                leastCount++;
            }
        }

        boolean isSetOfPlayers(int set) {
            return (set & ~players) == 0;
        }

        boolean isWinning(int set) {
            return strengths.at(set) >= quota;
        }

        int playerCount() {
            return Integer.bitCount(players);
        }

        int dummies() {
            int set = 0;
            for (int player = 0; player < MOST_MEMBERS; player++) {
                if (contains(players, player) && swings.at(player) == 0) {
                    set |= 1 << player;
                }
            }
            return set;
        }

        int needed() {
            return winningCount > 0 ? inAllWinning : 0;
        }

        int memberValue(int member, int what) {
            switch (what) {
                case 4:
                    return swings.at(member);
                case 5:
                    return orders.at(member);
                case 6:
                    return contains(dummies(), member) ? 1 : 0;
                default:
                    return contains(needed(), member) ? 1 : 0;
            }
        }

        int wholeValue(int what) {
            switch (what) {
                case 5:
                    return winningCount;
                case 6:
                    return leastCount;
                case 7:
                    return allSwings;
                case 8:
                    return dummies();
                default:
                    return needed();
            }
        }

        float shareOf(int member) {
            return allSwings == 0 ? 0.0f : (float) swings.at(member) / (float) allSwings;
        }

        double partOf(int member) {
            int allOrders = factorial(playerCount());
            return allOrders == 0 ? 0.0 : (double) orders.at(member) / (double) allOrders;
        }

        /** Goes back from the end of the order: whose going makes a winning set lose is the pivot. */
        int pivotOf(int order) {
            int set = players;
            int rest = order;
            for (int i = 0; i < MOST_MEMBERS && rest > 0; i++) {
                int player = rest % 10 - 1;
                int before = player < 0 ? set : set & ~(1 << player);
                if (isWinning(set) && !isWinning(before)) {
                    return player;
                }
                set = before;
                rest = rest / 10;
            }
            return NONE;
        }

        /** Whether the other player never makes a set win that this one does not. */
        boolean isNeverBelow(int player, int other) {
            int both = 1 << player | 1 << other;
            for (int set = 0; set < SETS; set++) {
                boolean apart = isSetOfPlayers(set) && (set & both) == 0;
                if (apart && isWinning(set | 1 << other) && !isWinning(set | 1 << player)) {
                    return false;
                }
            }
            return true;
        }

        int bestQuotaFor(int member, int sum) {
            findSteps(member);
            int own = 0;
            int all = 0;
            int best = NONE;
            int bestOwn = 0;
            int bestAll = 1;
            for (int tried = 1; tried <= MOST_QUOTA && tried <= sum; tried++) {
                own += ownSteps.at(tried);
                all += allSteps.at(tried);
                if (own * bestAll > bestOwn * all) {
                    best = tried;
                    bestOwn = own;
                    bestAll = all;
                }
            }
            return best;
        }

        private void findSteps(int member) {
            ownSteps.empty();
            allSteps.empty();
            for (int set = 0; set < SETS; set++) {
                if (isSetOfPlayers(set)) {
                    countSteps(set, member);
                }
            }
        }

        private void countSteps(int set, int member) {
            for (int player = 0; player < MOST_MEMBERS; player++) {
                if (contains(set, player)) {
                    countSwung(allSteps, set, player);
                    if (player == member) {
                        countSwung(ownSteps, set, player);
                    }
                }
            }
        }

        /** The player swings the set by the quotas above its strength without the player, up to that with it. */
        private void countSwung(Row steps, int set, int player) {
            steps.raise(strengths.at(set & ~(1 << player)) + 1, 1);
            steps.raise(strengths.at(set) + 1, -1);
        }
    }

    /** The latest settings before undoable calls. */
    private static final class SavedSettings {
        private final Setting[] slots = new Setting[MOST_SAVED];
        private int count;
        /** The slot for the next one, which is the oldest one's when all are taken. */
        private int next;

        SavedSettings() {
            for (int i = 0; i < slots.length; i++) {
                slots[i] = new Setting();
            }
        }

        void keep(Setting setting) {
            Setting slot = slotAt(next);
            if (slot != null) {
                slot.copyFrom(setting);
            }
            next = (next + 1) % MOST_SAVED;
            count = Math.min(count + 1, MOST_SAVED);
        }

        void giveBack(Setting setting) {
            next = (next + MOST_SAVED - 1) % MOST_SAVED;
            count = Math.max(count - 1, 0);
            Setting slot = slotAt(next);
            if (slot != null) {
                setting.copyFrom(slot);
            }
        }

        private Setting slotAt(int index) {
            return index >= 0 && index < slots.length ? slots[index] : null;
        }
    }

    /** The command text, and the command that was read last. */
    private static final class CommandText {
        private final Row bytes = new Row(MOST_BYTES);
        private int length;
        private int place;
        private Command command;
        private int first;
        private int second;

        int append(int value) {
            bytes.put(length, value);
            length++;
            return length;
        }

        /** The place of the fault, or NONE. */
        int findFault() {
            place = 0;
            int fault = NONE;
            for (int i = 0; i < MOST_BYTES && fault == NONE && hasCommand(); i++) {
                fault = readCommand();
            }
            return fault;
        }

        /** Goes to where the next command must begin; false if the text ends before. */
        boolean hasCommand() {
            skipSpaces();
            return place < length;
        }

        /** Reads the command that begins here; returns the place of its fault, or NONE. */
        int readCommand() {
            int start = place;
            while (place < length && isLetter(byteAt(place))) {
                place++;
            }
            command = commandNamed(start, place);
            if (command == null) {
                return start;
            }
            first = 0;
            second = 0;
            for (int i = 0; i < command.numbers; i++) {
                if (!readNumber(i)) {
                    return place;
                }
            }
            skipSpaces();
            if (byteAt(place) != ';') {
                return place;
            }
            place++;
            return NONE;
        }

        /** Reads a space or more and a number; false if something else stands where it stops. */
        private boolean readNumber(int index) {
            int before = place;
            skipSpaces();
            if (place == before) {
                return false;
            }
            int start = place;
            int value = 0;
            while (place < length && place < start + MOST_DIGITS && isDigit(byteAt(place))) {
                value = value * 10 + byteAt(place) - '0';
                place++;
            }
            if (index == 0) {
                first = value;
            } else {
                second = value;
            }
            return place > start;
        }

        private Command commandNamed(int start, int end) {
            for (Command candidate : COMMANDS) {
                if (candidate != null && stands(candidate.word, start, end)) {
                    return candidate;
                }
            }
            return null;
        }

        private boolean stands(String word, int start, int end) {
            if (word.length() != end - start) {
                return false;
            }
            for (int i = 0; i < word.length(); i++) {
                if (word.charAt(i) != byteAt(start + i)) {
                    return false;
                }
            }
            return true;
        }

        private void skipSpaces() {
            while (place < length && byteAt(place) == ' ') {
                place++;
            }
        }

        /** The byte there; behind the end of the text NONE, which is no byte. */
        private int byteAt(int index) {
            return index < length ? bytes.at(index) : NONE;
        }

        private static boolean isLetter(int value) {
            return value >= 'a' && value <= 'z';
        }

        private static boolean isDigit(int value) {
            return value >= '0' && value <= '9';
        }
    }
}
