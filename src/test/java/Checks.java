/** Counts answers that are not the ones due, and prints each of them. */
final class Checks {
    private int made = 0;
    private int wrong = 0;

    /** A call that may throw. */
    interface Call {
        int get();
    }

    void same(String what, Object got, Object due) {
        made++;
        if (!due.equals(got)) {
            wrong++;
            System.out.println(what + " answered " + got + ", due is " + due);
        }
    }

    void badArgument(String what, Call call) {
        same(what, outcome(call), "throws.IllegalArgumentException");
    }

    void badState(String what, Call call) {
        same(what, outcome(call), "throws.IllegalStateException");
    }

    /** What a call answers, or the name of what it throws. */
    static String outcome(Call call) {
        try {
            return Integer.toString(call.get());
        } catch (RuntimeException e) {
            return "throws." + e.getClass().getSimpleName();
        }
    }

    boolean anyWrong() {
        return wrong > 0;
    }

    void end() {
        System.out.println(made + " answers looked at, " + wrong + " not as due");
        if (wrong > 0) {
            System.exit(1);
        }
    }
}
