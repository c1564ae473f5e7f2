/** Counts the answers that are due and those that are not. */
final class Check {
    /** A call of which only its exception is of interest. */
    interface Call {
        void run();
    }

    private int right;
    private int wrong;
    private String topic = "";

    void topic(String name) {
        topic = name;
    }

    void same(String call, long got, long due) {
        note(got == due, call, String.valueOf(got), String.valueOf(due));
    }

    void same(String call, double got, double due) {
        note(Double.doubleToLongBits(got) == Double.doubleToLongBits(due), call, String.valueOf(got),
                String.valueOf(due));
    }

    void same(String call, String got, String due) {
        note(got.equals(due), call, got, due);
    }

    void holds(String claim, boolean held) {
        note(held, claim, "false", "true");
    }

    /** The call throws exactly that exception and changes nothing of the chamber. */
    void refuses(String name, PivotChamber chamber, Class<? extends RuntimeException> due, Call call) {
        long before = chamber.digest();
        String got = "nothing";
        try {
            call.run();
        } catch (RuntimeException e) {
            got = e.getClass().getName();
        }
        note(got.equals(due.getName()), name, got, due.getName());
        note(chamber.digest() == before, name + ", its state", "changed", "unchanged");
    }

    private void note(boolean isRight, String call, String got, String due) {
        if (isRight) {
            right++;
            return;
        }
        wrong++;
        if (wrong <= 40) {
            System.out.println(topic + ": " + call + " answered " + got + ", due is " + due);
        }
    }

    int asked() {
        return right + wrong;
    }

    /** Prints the sums and ends the program, with 1 if anything was wrong. */
    void end(String name) {
        System.out.println(name + ": " + right + " answers as due, " + wrong + " not");
        System.exit(wrong == 0 && right > 0 ? 0 : 1);
    }
}
