/** What the tests of single sentences share: how an object is made, and how it is looked at. */
abstract class Looks {
    static final int NONE = ClassifyRules.NONE;
    static final int LOW = Integer.MIN_VALUE;
    static final int HIGH = Integer.MAX_VALUE;

    static final int[] NO_QUESTION = {LOW, -2, NONE, 5, 6, HIGH};
    static final int[] NO_ANSWER = {LOW, -2, NONE, 4, 5, HIGH};
    static final int[] NO_NUMBER = {LOW, NONE, 0, 1000000, 1000001, HIGH};
    static final int[] NO_SPECIFIC = {LOW, -1, 101, 102, HIGH};
    static final int[] NO_DAY = {LOW, -1, 100001, 100002, HIGH};

    private final Checks checks = new Checks();
    private String at = "";

    /** What the answers from here on belong to. */
    final void at(String promise) {
        at = promise;
    }

    /** The test of one sentence; what it throws is told with the sentence and does not end the others. */
    final void says(String sentence, Runnable test) {
        at = sentence;
        String ended = "quietly";
        try {
            test.run();
        } catch (RuntimeException e) {
            ended = "with " + e;
        }
        same("its test ended", ended, "quietly");
    }

    final void same(String what, Object got, Object due) {
        checks.same(at + ": " + what, got, due);
    }

    final void badArgument(String what, Checks.Call call) {
        checks.badArgument(at + ": " + what, call);
    }

    final void badState(String what, Checks.Call call) {
        checks.badState(at + ": " + what, call);
    }

    final void end() {
        checks.end();
    }

    /** Codes 1 .. n, none more specific than another. */
    static ClassifyRules withCodes(int n) {
        ClassifyRules x = new ClassifyRules();
        for (int code = 1; code <= n; code++) {
            x.code(code, 0);
        }
        return x;
    }

    /** 60 rules on codes 1 .. 12: questions 0 .. 4, each code once with each of them. */
    static ClassifyRules withSixtyRules() {
        ClassifyRules x = withCodes(12);
        for (int n = 0; n < 60; n++) {
            x.rule(n / 12, n % 4, n % 12 + 1, n % 2 == 0);
        }
        return x;
    }

    static ClassifyRules withTwentyPrecedents() {
        ClassifyRules x = new ClassifyRules();
        for (int n = 0; n < 20; n++) {
            x.precedent(7, 0, 0, NONE, 0, 10);
        }
        return x;
    }

    final void left(ClassifyRules x, int... due) {
        for (int i = 0; i < due.length; i++) {
            same("left(" + i + ")", x.left(i), due[i]);
        }
        same("left(" + due.length + ")", x.left(due.length), NONE);
        same("count(3)", x.count(3), due.length);
    }

    final void code(ClassifyRules x, int found, int why) {
        same("found()", x.found(), found);
        same("why()", x.why(), why);
    }

    final void next(ClassifyRules x, int question, int needed) {
        same("question()", x.question(), question);
        same("needed()", x.needed(), needed);
    }
}
