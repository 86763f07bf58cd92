/** Each promise of the document: ordinary inputs, the edges that it names, and wrong inputs. */
public final class PromisesTest extends Looks {
    private void newObject() {
        ClassifyRules x = new ClassifyRules();
        for (int what = 0; what <= 6; what++) {
            same("count(" + what + ")", x.count(what), 0);
        }
        for (int q = 0; q < 5; q++) {
            same("count(" + (10 + q) + ")", x.count(10 + q), NONE);
        }
        left(x);
        code(x, 0, 0);
        next(x, NONE, 0);
        same("emptied()", x.emptied(), NONE);
        same("contradicts()", x.contradicts(), false);
        badArgument("explain(1)", () -> x.explain(1));
        ClassifyRules y = withCodes(3);
        y.answer(0, 0);
        same("another's codes", x.count(0) + x.count(2), 0);
    }

    private void code() {
        ClassifyRules x = new ClassifyRules();
        for (int number : new int[] {0, -1, 1000000, LOW, HIGH}) {
            badArgument("code " + number, () -> x.code(number, 0));
        }
        for (int specific : new int[] {-1, 101, LOW, HIGH}) {
            badArgument("specific " + specific, () -> x.code(7, specific));
        }
        same("nothing changed", x.count(0), 0);
        same("code(999999, 0)", x.code(999999, 0), 1);
        same("code(1, 100)", x.code(1, 100), 2);
        same("once more", x.code(1, 50), 0);
        badArgument("once more and wrong", () -> x.code(1, 101));
        code(x, 1, 3);
        for (int n = 3; n <= 12; n++) {
            same("code " + n, x.code(n, 0), n);
            if (n < 12) {
                same("one that is there, of " + n, x.code(n, 100), 0);
            }
        }
        badState("one that is there, of 12", () -> x.code(5, 100));
        badState("the first that is there, of 12", () -> x.code(1, 0));
        badArgument("one that is there, of 12, and wrongly specific", () -> x.code(5, 101));
        badState("the 13th", () -> x.code(20, 0));
        badArgument("the 13th and wrong", () -> x.code(0, 0));
        badArgument("the 13th and wrongly specific", () -> x.code(20, -1));
        left(x, 1, 3, 4, 5, 6, 7, 8, 9, 10, 11, 12, 999999);
        code(x, 1, 3);
    }

    /** Codes that come later stand among those that are there, with all that was said of these. */
    private void codeBetween() {
        ClassifyRules x = new ClassifyRules();
        x.code(50, 4);
        x.code(30, 5);
        x.share(50, 3, 4);
        x.rule(0, 0, 50, true);
        x.rule(1, 0, 30, false);
        x.code(40, 4);
        x.code(10, 4);
        x.code(60, 4);
        left(x, 10, 30, 40, 50, 60);
        code(x, 30, 3);
        x.answer(1, 0);
        left(x, 10, 40, 50, 60);
        code(x, 50, 4);
        x.answer(0, 0);
        left(x, 50);
        same("explain(60)", x.explain(60), 0);
        same("explain(30)", x.explain(30), 4);
        same("a rule that is there", x.rule(1, 0, 30, true), 0);
        same("a rule that is not", x.rule(1, 0, 40, true), 3);
        left(x);
    }

    private void share() {
        ClassifyRules x = withCodes(2);
        code(x, 2, 5);
        same("share(1, 1, 1000)", x.share(1, 1, 1000), true);
        code(x, 1, 4);
        same("share(2, 1000, 1)", x.share(2, 1000, 1), true);
        code(x, 2, 4);
        int[][] wrong = {{3, 1, 1}, {0, 1, 1}, {NONE, 1, 1}, {2, -1, 1}, {2, 1001, 1}, {2, 0, 0}, {2, 0, -1},
            {2, 0, 1001}, {LOW, 0, 1}, {2, LOW, 1}, {2, 0, LOW}, {2, HIGH, 1}, {2, 0, HIGH}};
        for (int[] w : wrong) {
            same("share" + w[0] + " " + w[1] + " " + w[2], x.share(w[0], w[1], w[2]), false);
        }
        code(x, 2, 4);
        same("share(2, 0, 1000)", x.share(2, 0, 1000), true);
        code(x, 1, 4);
        x.code(2, 0);
        same("share(2, 1000, 1000)", x.share(2, 1000, 1000), true);
        same("share(1, 1, 1)", x.share(1, 1, 1), true);
        code(x, 2, 5);
    }

    private void rule() {
        ClassifyRules x = withCodes(12);
        for (int q : new int[] {-1, 5, LOW, HIGH}) {
            badArgument("question " + q, () -> x.rule(q, 0, 1, true));
        }
        for (int a : new int[] {NONE, 4, LOW, HIGH}) {
            badArgument("answer " + a, () -> x.rule(0, a, 1, true));
        }
        for (int c : new int[] {0, NONE, 13, LOW, HIGH}) {
            badArgument("code " + c, () -> x.rule(0, 0, c, false));
        }
        same("nothing changed", x.count(1), 0);
        for (int n = 0; n < 60; n++) {
            same("rule " + n, x.rule(n / 12, n % 4, n % 12 + 1, n % 2 == 0), n + 1);
            if (n < 59) {
                same("rule " + n + " once more", x.rule(n / 12, n % 4, n % 12 + 1, n % 2 == 0), 0);
                same("rule " + n + " the other way", x.rule(n / 12, n % 4, n % 12 + 1, n % 2 != 0), 0);
            }
        }
        badState("one that is there, of 60", () -> x.rule(0, 0, 1, true));
        badState("one that is there the other way, of 60", () -> x.rule(4, 3, 12, true));
        badState("the 61st", () -> x.rule(0, 1, 1, true));
        badArgument("the 61st and wrong", () -> x.rule(0, 4, 1, true));
        same("count(1)", x.count(1), 60);
        x.answer(0, 1);
        x.answer(4, 3);
        left(x, 1, 3, 5, 7, 9, 11);
    }

    /** An answer that keeps some code leaves the kept ones alone, even where none of them is LEFT. */
    private void ruleLeaves() {
        ClassifyRules x = withCodes(4);
        x.rule(0, 0, 1, true);
        x.rule(0, 0, 2, true);
        x.rule(0, 0, 3, false);
        x.rule(0, 1, 3, false);
        x.rule(4, 3, 2, false);
        same("answer(0, 0)", x.answer(0, 0), 2);
        left(x, 1, 2);
        same("answer(0, 1)", x.answer(0, 1), 3);
        left(x, 1, 2, 4);
        same("answer(4, 3)", x.answer(4, 3), 2);
        left(x, 1, 4);
        x.rule(4, 3, 3, true);
        left(x);
        same("answer(0, 3)", x.answer(0, 3), 1);
        left(x, 3);
        x.rule(0, 3, 3, false);
        left(x);
    }

    private void answer() {
        ClassifyRules x = withCodes(3);
        x.rule(4, 3, 1, true);
        x.rule(0, 0, 1, false);
        for (int q : new int[] {-1, 5, LOW, HIGH}) {
            badArgument("question " + q, () -> x.answer(q, 0));
            badArgument("question taken back " + q, () -> x.answer(q, NONE));
        }
        for (int a : new int[] {-2, 4, LOW, HIGH}) {
            badArgument("answer " + a, () -> x.answer(0, a));
        }
        same("nothing changed", x.count(2), 0);
        same("taken back before it was given", x.answer(4, NONE), 3);
        same("still none", x.count(2), 0);
        same("answer(4, 3)", x.answer(4, 3), 1);
        same("once more", x.answer(4, 3), 1);
        same("count(2)", x.count(2), 1);
        same("count(14)", x.count(14), 3);
        badArgument("changed to a wrong one", () -> x.answer(4, 4));
        same("count(14) after it", x.count(14), 3);
        same("answer(0, 0)", x.answer(0, 0), 0);
        same("changed", x.answer(0, 1), 1);
        same("two given", x.count(2), 2);
        same("taken back", x.answer(4, NONE), 3);
        same("count(14) without", x.count(14), NONE);
        same("answers to a new object's", new ClassifyRules().answer(0, 0), 0);
    }

    private void question() {
        ClassifyRules x = withCodes(1);
        x.rule(0, 0, 1, false);
        next(x, NONE, 0);
        x.code(2, 0);
        next(x, 0, 1);
        x.answer(0, 1);
        next(x, NONE, 0);
        x.answer(0, NONE);
        // The same of these for every answer: it parts nothing.
        ClassifyRules y = withCodes(2);
        for (int a = 0; a < 4; a++) {
            y.rule(1, a, 1, false);
        }
        next(y, NONE, 0);
        // Only the last answer differs.
        y.rule(3, 3, 2, false);
        next(y, 3, 1);
        // An earlier question that needs as many.
        y.rule(2, 0, 1, true);
        y.rule(2, 1, 2, true);
        y.rule(2, 2, 1, true);
        y.rule(2, 3, 2, true);
        next(y, 2, 1);
        // It parts all the codes, but no longer what is left.
        ClassifyRules z = withCodes(3);
        z.rule(0, 0, 3, false);
        z.rule(1, 0, 1, true);
        z.rule(1, 0, 2, true);
        next(z, 0, 2);
        z.answer(1, 0);
        next(z, NONE, 0);
    }

    private void needed() {
        // Answers without a rule leave all, so each of the five is needed at worst.
        ClassifyRules x = withCodes(2);
        for (int q = 4; q >= 0; q--) {
            x.rule(q, 2, 1, false);
            next(x, q, 5 - q);
        }
        x.answer(0, 0);
        next(x, 1, 4);
        x.answer(0, 2);
        next(x, NONE, 0);
        // 0 halves four codes and 1 halves each half, while 4 does it alone.
        ClassifyRules y = withCodes(4);
        for (int a = 0; a < 4; a++) {
            y.rule(0, a, a % 2 + 1, true);
            y.rule(0, a, a % 2 + 3, true);
            y.rule(1, a, a % 2 * 2 + 1, true);
            y.rule(1, a, a % 2 * 2 + 2, true);
        }
        next(y, 0, 2);
        for (int a = 0; a < 4; a++) {
            y.rule(4, a, a + 1, true);
        }
        next(y, 4, 1);
        y.answer(4, 0);
        next(y, NONE, 0);
        y.answer(4, NONE);
        y.answer(0, 0);
        next(y, 1, 1);
    }

    /** The least of those that part is not the best: 0 leaves more to ask than 1. */
    private void neededLater() {
        ClassifyRules x = withCodes(4);
        x.rule(0, 0, 1, false);
        for (int a = 0; a < 4; a++) {
            x.rule(1, a, a % 2 * 2 + 1, true);
            x.rule(1, a, a % 2 * 2 + 2, true);
            x.rule(2, a, 1 + a % 2, true);
            x.rule(2, a, 3 + a % 2, true);
        }
        next(x, 1, 2);
        x.answer(1, 0);
        next(x, 2, 1);
        x.answer(2, 3);
        next(x, NONE, 0);
        left(x, 2);
    }

    private void foundAndWhy() {
        ClassifyRules x = new ClassifyRules();
        code(x, 0, 0);
        x.code(10, 7);
        code(x, 10, 2);
        x.code(5, 8);
        code(x, 5, 3);
        x.code(20, 7);
        x.share(20, 9, 1);
        code(x, 5, 3);
        x.code(8, 8);
        code(x, 8, 5);
        x.share(5, 1, 3);
        code(x, 5, 4);
        x.share(8, 333, 999);
        code(x, 8, 5);
        x.share(8, 333, 1000);
        code(x, 5, 4);
        x.share(5, 999, 1000);
        x.share(8, 998, 999);
        code(x, 5, 4);
        x.rule(0, 0, 5, false);
        x.rule(0, 0, 8, false);
        x.rule(0, 1, 20, true);
        x.rule(0, 1, 20, false);
        x.rule(0, 2, 5, true);
        x.rule(1, 2, 5, false);
        x.answer(0, 0);
        code(x, 20, 4);
        x.share(20, 0, 7);
        code(x, 20, 5);
        x.answer(0, 1);
        code(x, 20, 2);
        x.answer(0, 2);
        code(x, 5, 2);
        x.answer(1, 2);
        code(x, 0, 0);
    }

    private void left() {
        ClassifyRules x = new ClassifyRules();
        same("left(0)", x.left(0), NONE);
        x.code(30, 1);
        x.code(999999, 0);
        x.code(20, 9);
        left(x, 20, 30, 999999);
        for (int i : new int[] {-1, 3, 12, LOW, HIGH}) {
            same("left(" + i + ")", x.left(i), NONE);
        }
        x.rule(2, 2, 20, false);
        x.answer(2, 2);
        left(x, 30, 999999);
    }

    private void emptied() {
        ClassifyRules x = new ClassifyRules();
        x.answer(3, 1);
        same("no codes", x.emptied(), NONE);
        x.code(1, 0);
        x.code(2, 0);
        same("something is left", x.emptied(), NONE);
        x.rule(3, 1, 1, false);
        x.rule(2, 3, 2, false);
        x.rule(1, 1, 1, false);
        x.answer(2, 3);
        same("2 after 3", x.emptied(), 11);
        x.answer(3, 1);
        same("3 once more", x.emptied(), 11);
        x.answer(1, 1);
        same("1 after what was empty", x.emptied(), 11);
        x.answer(3, NONE);
        same("3 taken back", x.emptied(), 5);
        x.answer(3, 1);
        same("3 given again, last", x.emptied(), 5);
        x.answer(1, 0);
        same("1 changed", x.emptied(), 13);
        x.answer(1, 1);
        same("1 changed back, last", x.emptied(), 13);
        x.answer(2, 0);
        same("something left again", x.emptied(), NONE);
        // Rules that come later count for answers that were given before.
        x.rule(1, 1, 2, true);
        same("1 keeps 2 alone", x.emptied(), NONE);
        x.rule(2, 0, 1, true);
        same("2 was changed last", x.emptied(), 8);
    }

    private void explain() {
        ClassifyRules x = withCodes(3);
        for (int c : new int[] {0, NONE, 4, LOW, HIGH}) {
            badArgument("explain " + c, () -> x.explain(c));
        }
        x.rule(0, 3, 1, false);
        x.rule(1, 2, 1, false);
        x.rule(4, 3, 2, true);
        same("no answers", x.explain(1), NONE);
        x.answer(1, 2);
        x.answer(0, 3);
        x.answer(4, 3);
        same("1 fell first with 1", x.explain(1), 6);
        same("2 is left", x.explain(2), NONE);
        same("3 was not kept", x.explain(3), 19);
        x.answer(1, 2);
        same("1 once more", x.explain(1), 6);
        x.answer(1, 1);
        same("1 changed", x.explain(1), 3);
        x.answer(1, 2);
        same("1 changed back, last", x.explain(1), 3);
        x.answer(0, NONE);
        same("0 taken back", x.explain(1), 19);
        x.answer(4, NONE);
        same("4 taken back", x.explain(1), 6);
        same("3 is left again", x.explain(3), NONE);
    }

    private void precedent() {
        ClassifyRules x = new ClassifyRules();
        int[][] wrong = {
            {0, 0, 0, 1, 0, 5}, {NONE, 0, 0, 1, 0, 5}, {1000000, 0, 0, 1, 0, 5}, {LOW, 0, 0, 1, 0, 5},
            {7, NONE, 0, 1, 0, 5}, {7, 5, 0, 1, 0, 5}, {7, NONE, 0, NONE, 0, 5}, {7, HIGH, 0, 1, 0, 5},
            {7, 0, NONE, 1, 0, 5}, {7, 0, 4, 1, 0, 5}, {7, 0, LOW, NONE, 0, 5},
            {7, 0, 0, -2, 0, 5}, {7, 0, 0, 5, 0, 5}, {7, 0, 0, HIGH, 0, 5},
            {7, 0, 0, 1, NONE, 5}, {7, 0, 0, 1, 4, 5}, {7, 0, 0, 0, 0, 5}, {7, 0, 0, 0, 1, 5},
            {7, 0, 0, 1, 0, -1}, {7, 0, 0, 1, 0, 100001}, {7, 0, 0, 1, 0, HIGH}};
        for (int[] w : wrong) {
            badArgument("precedent " + java.util.Arrays.toString(w),
                    () -> x.precedent(w[0], w[1], w[2], w[3], w[4], w[5]));
        }
        same("nothing changed", x.count(4), 0);
        same("one alone, whatever the other answer", x.precedent(999999, 0, 3, NONE, HIGH, 0), 1);
        same("two", x.precedent(1, 4, 0, 3, 3, 100000), 2);
        for (int n = 3; n <= 20; n++) {
            same("the same again", x.precedent(1, 4, 0, 3, 3, 100000), n);
        }
        badState("the 21st", () -> x.precedent(1, 4, 0, 3, 3, 100000));
        badArgument("the 21st and wrong", () -> x.precedent(0, 4, 0, 3, 3, 100000));
        same("count(4)", x.count(4), 20);
    }

    private void precedentHolds() {
        ClassifyRules x = withCodes(1);
        x.precedent(999999, 0, 3, NONE, 0, 0);
        x.precedent(1, 4, 0, 3, 3, 100000);
        x.rule(0, 3, 1, false);
        x.answer(0, 2);
        code(x, 1, 2);
        x.answer(0, 3);
        same("none is left", x.count(3), 0);
        code(x, 999999, 1);
        x.answer(4, 0);
        same("the first half of the second", x.count(5), 1);
        code(x, 999999, 1);
        x.answer(3, 3);
        same("both hold", x.count(5), 2);
        code(x, 0, 0);
        x.day(1);
        same("the day is over", x.count(5), 1);
        code(x, 1, 1);
        x.day(100000);
        code(x, 1, 1);
        x.answer(4, 1);
        same("another answer", x.count(5), 0);
        same("the other half alone", x.found(), 0);
        same("a day that is over", x.precedent(8, 4, 1, NONE, 0, 99999), 3);
        same("does not hold", x.count(5), 0);
        same("none counts without codes or answers", new ClassifyRules().found(), 0);
    }

    private void contradicts() {
        ClassifyRules x = withCodes(2);
        x.precedent(5, 0, 0, NONE, 0, 10);
        x.precedent(5, 1, 0, NONE, 0, 9);
        x.precedent(6, 2, 0, 1, 0, 8);
        same("none holds", x.contradicts(), false);
        x.answer(0, 0);
        x.answer(1, 0);
        same("two of one code", x.contradicts(), false);
        code(x, 5, 1);
        x.answer(2, 0);
        same("two codes", x.contradicts(), true);
        same("count(5)", x.count(5), 3);
        code(x, 2, 5);
        x.day(8);
        same("on the last day", x.contradicts(), true);
        x.day(9);
        same("the day after", x.contradicts(), false);
        same("two are left", x.count(5), 2);
        x.day(10);
        same("one is left", x.count(5), 1);
        code(x, 5, 1);
        x.day(11);
        same("nothing holds", x.contradicts(), false);
        code(x, 2, 5);
    }

    private void day() {
        ClassifyRules x = new ClassifyRules();
        same("day(0)", x.day(0), true);
        for (int d : new int[] {-1, 100001, LOW, HIGH}) {
            same("day " + d, x.day(d), false);
        }
        same("still 0", x.count(6), 0);
        same("day(7)", x.day(7), true);
        same("the same", x.day(7), true);
        same("back", x.day(6), false);
        same("count(6)", x.count(6), 7);
        same("day(100000)", x.day(100000), true);
        same("back by one", x.day(99999), false);
        same("on by one", x.day(100001), false);
        same("the last", x.count(6), 100000);
    }

    private void count() {
        ClassifyRules x = withCodes(3);
        x.rule(0, 1, 3, false);
        x.rule(0, 1, 2, false);
        for (int q = 0; q < 5; q++) {
            x.answer(q, (q + 1) % 4);
        }
        x.precedent(9, 0, 1, NONE, 0, 2);
        x.precedent(9, 0, 0, NONE, 0, 2);
        x.precedent(8, 4, 1, 3, 0, 2);
        x.precedent(8, 4, 1, 3, 1, 2);
        x.day(2);
        int[] due = {3, 2, 5, 1, 4, 2, 2, NONE, NONE, NONE, 1, 2, 3, 0, 1, NONE, NONE};
        for (int what = 0; what < due.length; what++) {
            same("count(" + what + ")", x.count(what), due[what]);
        }
        for (int what : new int[] {-1, -10, LOW, LOW + 9, LOW + 10, HIGH, HIGH - 3}) {
            same("count(" + what + ")", x.count(what), NONE);
        }
    }

    private void all() {
        at("promise 1");
        newObject();
        at("promise 2");
        code();
        codeBetween();
        at("promise 3");
        share();
        at("promise 4");
        rule();
        ruleLeaves();
        at("promise 5");
        answer();
        at("promise 6");
        question();
        at("promise 7");
        needed();
        neededLater();
        at("promises 8 and 9");
        foundAndWhy();
        at("promise 10");
        left();
        at("promise 11");
        emptied();
        at("promise 12");
        explain();
        at("promise 13");
        precedent();
        precedentHolds();
        at("promise 14");
        contradicts();
        at("promise 15");
        day();
        at("promise 16");
        count();
        end();
    }

    public static void main(String[] args) {
        new PromisesTest().all();
    }
}
