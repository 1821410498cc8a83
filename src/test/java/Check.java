/** Counts and prints the answers that are not the ones that are due. */
final class Check {
    /** A call whose answer is looked at; what it throws is looked at, too. */
    interface Call {
        long answer();
    }

    /** A call without an answer. */
    interface Act {
        void run();
    }

    private static final String NOTHING = "nothing";

    private final String title;
    private int right;
    private int wrong;

    Check(String title) {
        this.title = title;
    }

    void same(String call, long got, long due) {
        if (got == due) {
            right++;
        } else {
            wrong++;
            System.out.println(title + ": " + call + " answered " + got + ", due is " + due);
        }
    }

    void same(String call, String got, String due) {
        if (got.equals(due)) {
            right++;
        } else {
            wrong++;
            System.out.println(title + ": " + call + " answered " + got + ", due is " + due);
        }
    }

    void isTrue(String claim, boolean got) {
        same(claim, got ? "true" : "false", "true");
    }

    void refusesArgument(String call, Act act) {
        same(call, thrownBy(act), "IllegalArgumentException");
    }

    void refusesState(String call, Act act) {
        same(call, thrownBy(act), "IllegalStateException");
    }

    void refusesIndex(String call, Act act) {
        same(call, thrownBy(act), "IndexOutOfBoundsException");
    }

    void throwsNothing(String call, Act act) {
        same(call, thrownBy(act), NOTHING);
    }

    /** The exact class counts: what the machine throws is of a class below the document's. */
    static String thrownBy(Act act) {
        try {
            act.run();
        } catch (RuntimeException e) {
            return e.getClass().getSimpleName();
        }
        return NOTHING;
    }

    /** The answer, or the exception's name. */
    static String told(Call call) {
        long[] answer = new long[1];
        String thrown = thrownBy(() -> answer[0] = call.answer());
        return thrown.equals(NOTHING) ? Long.toString(answer[0]) : "throws." + thrown;
    }

    int rightOnes() {
        return right;
    }

    int wrongOnes() {
        return wrong;
    }

    void close() {
        System.out.println(title + ": " + right + " right, " + wrong + " wrong");
        if (wrong != 0 || right == 0) {
            System.exit(1);
        }
    }
}
