import java.lang.reflect.InvocationTargetException;
import java.lang.reflect.Method;
import java.util.ArrayList;
import java.util.Comparator;
import java.util.List;
import java.util.function.IntUnaryOperator;

/** What the tests of single sentences have in common: chambers, texts, and running each method marked with Says. */
abstract class ChamberTests {
    static final Class<IllegalArgumentException> ARGUMENT = IllegalArgumentException.class;
    static final Class<IllegalStateException> STATE = IllegalStateException.class;
    static final Class<IndexOutOfBoundsException> PLACE = IndexOutOfBoundsException.class;
    static final int NONE = PivotChamber.NONE;
    static final int LEAST = Integer.MIN_VALUE;
    static final int MOST = Integer.MAX_VALUE;
    /** Numbers that none of four members, or of four rules, has. */
    static final int[] NONE_OF_FOUR = {LEAST, -2, -1, 4, 5, 7, 8, 31, 32, 255, MOST};
    /** Numbers that none of eight members has. */
    static final int[] NONE_OF_EIGHT = {LEAST, -1, 8, 9, 32, MOST};
    static final int[] NO_WEIGHTS = {LEAST, -50, -1, 51, 52, 256, MOST};
    static final int[] NO_QUOTAS = {LEAST, -1, 0, 401, 402, MOST};

    final Check check = new Check();

    /** Runs the methods marked with Says, and ends the program. */
    final void runAll() {
        for (Method test : testsOf(getClass())) {
            Says says = test.getAnnotation(Says.class);
            check.topic(test.getName() + " (" + says.in() + ": " + says.value() + ")");
            int before = check.asked();
            run(test);
            check.holds("something is asked", check.asked() > before);
        }
        check.end(getClass().getName());
    }

    private void run(Method test) {
        try {
            test.invoke(this);
        } catch (InvocationTargetException e) {
            check.holds("the test itself throws nothing, but it threw " + e.getCause(), false);
        } catch (IllegalAccessException e) {
            check.holds("the test can be run", false);
        }
    }

    static List<Method> testsOf(Class<?> tests) {
        List<Method> found = new ArrayList<>();
        for (Method method : tests.getDeclaredMethods()) {
            if (method.isAnnotationPresent(Says.class)) {
                found.add(method);
            }
        }
        found.sort(Comparator.comparing(Method::getName));
        return found;
    }

    static PivotChamber chamber(int quota, int... weights) {
        PivotChamber chamber = new PivotChamber();
        for (int weight : weights) {
            chamber.add(weight);
        }
        chamber.setQuota(quota);
        return chamber;
    }

    /** The weights 4, 3, 2, 1 and the quota 6: the sets 3, 5 and 14 are the least that win. */
    static PivotChamber four() {
        return chamber(6, 4, 3, 2, 1);
    }

    /** As four(), but 3 follows 1: any two of the players 0, 1 and 2 win. */
    static PivotChamber fourWithFollower() {
        PivotChamber x = four();
        x.follow(3, 1);
        return x;
    }

    /** Two who must both agree, and a dummy. */
    static PivotChamber twoAndDummy() {
        return chamber(10, 5, 5, 1);
    }

    /** Eight members of the same weight. */
    static PivotChamber eight(int quota, int weight) {
        return chamber(quota, weight, weight, weight, weight, weight, weight, weight, weight);
    }

    /** A chamber that a text has made, so that one state alone is saved; the text is empty again. */
    static PivotChamber madeBy(String text) {
        PivotChamber x = new PivotChamber();
        runOf(x, text);
        x.clearCommands();
        return x;
    }

    static void write(PivotChamber chamber, String text) {
        for (int i = 0; i < text.length(); i++) {
            chamber.type(text.charAt(i));
        }
    }

    static int runOf(PivotChamber chamber, String text) {
        chamber.clearCommands();
        write(chamber, text);
        return chamber.runCommands();
    }

    /** Each text, run by a new object, has its fault there; -1 stands for no fault. */
    void faults(int due, String... texts) {
        for (String text : texts) {
            int got = runOf(new PivotChamber(), text);
            String call = "runCommands() of '" + text + "'";
            if (due == -1) {
                check.holds(call + " has no fault, but answered " + got, got >= 0);
            } else {
                check.same(call, got, -10 - due);
            }
        }
    }

    /** Any argument but these is right; for these the call is refused. */
    void refusesEach(String name, PivotChamber x, Class<? extends RuntimeException> due, IntUnaryOperator call,
            int... arguments) {
        for (int argument : arguments) {
            check.refuses(name + " with " + argument, x, due, () -> call.applyAsInt(argument));
        }
    }

    /** As many states can be undone as are due, and no more; they are undone then. */
    void savedStates(PivotChamber x, int due) {
        for (int left = due - 1; left >= 0; left--) {
            check.same("undo()", x.undo(), left);
        }
        check.refuses("one undo() more", x, STATE, x::undo);
    }

    /** Both answer alike from now on: the values, the text, and each state that can be undone. */
    void alike(String name, PivotChamber x, PivotChamber twin) {
        check.same(name + ": digest()", x.digest(), twin.digest());
        check.same(name + ": runCommands()", x.runCommands(), twin.runCommands());
        check.same(name + ": digest() behind a run", x.digest(), twin.digest());
        for (int i = 0; i < 5; i++) {
            check.same(name + ": undo()", undone(x), undone(twin));
            check.same(name + ": digest() behind undo()", x.digest(), twin.digest());
        }
    }

    private static int undone(PivotChamber x) {
        try {
            return x.undo();
        } catch (IllegalStateException e) {
            return NONE;
        }
    }
}
