/** A test for each sentence of the document's head and 'Terms' that names a boundary case. */
public final class TermsTest extends Looks {

    /** Answers changed all the time fill nothing up before the last call. */
    private void callsUpTo512() {
        ClassifyRules x = withCodes(3);
        x.rule(0, 1, 1, false);
        x.rule(4, 3, 2, false);
        for (int n = 5; n < 512; n++) {
            int q = n % 2 * 4;
            int a = n / 2 % 4;
            int due = 3 - (q == 0 && a == 1 ? 1 : 0) - (q == 4 && a == 3 ? 1 : 0);
            // The other question has the answer of the call before.
            if (n > 5) {
                int before = (n - 1) / 2 % 4;
                due -= (q == 4 && before == 1 ? 1 : 0) + (q == 0 && before == 3 ? 1 : 0);
            }
            same("call " + (n + 1), x.answer(q, a), due);
        }
    }

    private void codeNumbers() {
        ClassifyRules x = new ClassifyRules();
        for (int number : NO_NUMBER) {
            badArgument("code " + number, () -> x.code(number, 0));
        }
        same("the least", x.code(1, 0), 1);
        same("the greatest", x.code(999999, 0), 2);
        same("beside the least", x.code(2, 0), 3);
        same("beside the greatest", x.code(999998, 0), 4);
        left(x, 1, 2, 999998, 999999);
    }

    private void twelveCodes() {
        ClassifyRules x = new ClassifyRules();
        for (int n = 1; n <= 12; n++) {
            same("code " + n, x.code(10 * n, 0), n);
        }
        badState("one more, below all", () -> x.code(5, 0));
        badState("one more, between", () -> x.code(55, 0));
        badState("one more, above all", () -> x.code(125, 0));
        left(x, 10, 20, 30, 40, 50, 60, 70, 80, 90, 100, 110, 120);
    }

    private void eachCodeOnce() {
        ClassifyRules x = new ClassifyRules();
        for (int n = 1; n <= 11; n++) {
            x.code(10 * n, 0);
            same("the first of " + n, x.code(10, 0), 0);
            same("the last of " + n, x.code(10 * n, 100), 0);
        }
        same("one in the middle", x.code(60, 0), 0);
        left(x, 10, 20, 30, 40, 50, 60, 70, 80, 90, 100, 110);
    }

    private void codesByNumber() {
        int[][] orders = {{1, 2, 3}, {1, 3, 2}, {2, 1, 3}, {2, 3, 1}, {3, 1, 2}, {3, 2, 1}};
        for (int[] order : orders) {
            ClassifyRules x = new ClassifyRules();
            for (int number : order) {
                x.code(number, 3 - number);
            }
            left(x, 1, 2, 3);
        }
        ClassifyRules y = new ClassifyRules();
        for (int number = 12; number >= 1; number--) {
            y.code(number, 0);
        }
        left(y, 1, 2, 3, 4, 5, 6, 7, 8, 9, 10, 11, 12);
    }

    /** What was said of a code stays with it when others come before it. */
    private void codesMoveWhole() {
        for (int number = 20; number <= 50; number += 10) {
            for (int between = 1; between <= 12; between++) {
                ClassifyRules x = new ClassifyRules();
                x.code(number, 60);
                x.share(number, 4, 5);
                x.rule(0, 0, number, true);
                x.rule(4, 3, number, false);
                x.code(5 * between + 1, 60);
                x.code(12, 60);
                x.share(12, 3, 4);
                code(x, number, 4);
                x.share(12, 5, 6);
                code(x, 12, 4);
                x.answer(0, 0);
                left(x, number);
                x.answer(0, NONE);
                same("it alone falls", x.answer(4, 3), 2);
                same("explain(" + number + ")", x.explain(number), 19);
                same("its rules are there", x.rule(0, 0, number, false) + x.rule(4, 3, number, true), 0);
            }
        }
    }

    private void howSpecific() {
        ClassifyRules x = new ClassifyRules();
        for (int specific : NO_SPECIFIC) {
            badArgument("specific " + specific, () -> x.code(7, specific));
        }
        same("0", x.code(9, 0), 1);
        same("1", x.code(8, 1), 2);
        code(x, 8, 3);
        same("99", x.code(7, 99), 3);
        code(x, 7, 3);
        same("100", x.code(6, 100), 4);
        code(x, 6, 3);
    }

    private void shareAtFirst() {
        ClassifyRules x = withCodes(2);
        x.share(1, 0, 1000);
        code(x, 2, 5);
        x.share(1, 0, 1);
        code(x, 2, 5);
        x.share(1, 1, 1000);
        code(x, 1, 4);
        // A code that comes between takes over nothing from the one whose place it gets.
        ClassifyRules y = new ClassifyRules();
        y.code(5, 0);
        y.share(5, 7, 7);
        y.code(3, 0);
        code(y, 5, 4);
        y.share(5, 0, 9);
        code(y, 5, 5);
    }

    private void shareLimits() {
        ClassifyRules x = withCodes(1);
        for (int up : new int[] {LOW, -1, 1001, 1002, HIGH}) {
            same("up " + up, x.share(1, up, 1), false);
        }
        for (int down : new int[] {LOW, -1, 0, 1001, 1002, HIGH}) {
            same("down " + down, x.share(1, 1, down), false);
            same("up 0, down " + down, x.share(1, 0, down), false);
        }
        for (int up : new int[] {0, 1, 999, 1000}) {
            for (int down : new int[] {1, 2, 999, 1000}) {
                same("share " + up + " / " + down, x.share(1, up, down), true);
            }
        }
    }

    private void questionsAndAnswers() {
        for (int q = 0; q <= 4; q++) {
            for (int a = 0; a <= 3; a++) {
                ClassifyRules x = withCodes(2);
                int question = q;
                same("a rule for " + q + " " + a, x.rule(q, a, 1, false), 1);
                same("a precedent for " + q + " " + a, x.precedent(9, q, a, NONE, 0, 0), 1);
                same("the answer " + q + " " + a, x.answer(q, a), 1);
                same("it is given", x.count(10 + q), a);
                same("it holds", x.count(5), 1);
                for (int none : new int[] {LOW, -2, 4, 5, HIGH}) {
                    badArgument("answer " + none + " to " + q, () -> x.answer(question, none));
                }
            }
        }
        for (int q : NO_QUESTION) {
            badArgument("question " + q, () -> new ClassifyRules().answer(q, 0));
        }
    }

    private void oneAnswerOrNone() {
        ClassifyRules x = withCodes(1);
        for (int q = 0; q <= 4; q++) {
            same("none at first", x.count(10 + q), NONE);
            for (int a = 0; a <= 3; a++) {
                x.answer(q, a);
                same("one in the place of another", x.count(10 + q), a);
                same("counted once", x.count(2), q + 1);
            }
        }
        for (int q = 0; q <= 4; q++) {
            x.answer(q, NONE);
            same("none again", x.count(10 + q), NONE);
            same("counted no more", x.count(2), 4 - q);
        }
    }

    private void sixtyRules() {
        ClassifyRules x = withCodes(12);
        for (int n = 0; n < 60; n++) {
            same("rule " + (n + 1), x.rule(n / 12, n % 4, n % 12 + 1, false), n + 1);
        }
        badState("one more that falls", () -> x.rule(4, 0, 12, false));
        badState("one more that is kept", () -> x.rule(0, 1, 1, true));
        same("count(1)", x.count(1), 60);
        same("answer 0 to question 4 lets three fall", x.answer(4, 0), 9);
    }

    private void eachRuleOnce() {
        ClassifyRules x = withCodes(3);
        same("the first", x.rule(1, 2, 2, true), 1);
        same("the same", x.rule(1, 2, 2, true), 0);
        same("it falls too", x.rule(1, 2, 2, false), 0);
        same("another question", x.rule(2, 2, 2, false), 2);
        same("another answer", x.rule(1, 1, 2, false), 3);
        same("another code", x.rule(1, 2, 3, false), 4);
        same("that it is kept too", x.rule(1, 2, 3, true), 0);
        same("all of that once more", x.rule(2, 2, 2, true) + x.rule(1, 1, 2, true), 0);
        same("count(1)", x.count(1), 4);
        same("2 alone is kept", x.answer(1, 2), 1);
        left(x, 2);
    }

    private void answerWithoutKept() {
        ClassifyRules x = withCodes(3);
        x.rule(0, 0, 1, true);
        same("no rule with this answer", x.answer(0, 1), 3);
        x.rule(0, 1, 2, false);
        left(x, 1, 3);
        x.rule(0, 1, 1, false);
        x.rule(0, 1, 3, false);
        left(x);
    }

    private void answerWithKept() {
        ClassifyRules x = withCodes(4);
        x.answer(4, 3);
        x.rule(4, 3, 3, true);
        left(x, 3);
        x.rule(4, 3, 1, false);
        left(x, 3);
        x.rule(4, 3, 4, true);
        left(x, 3, 4);
        x.rule(4, 3, 2, true);
        left(x, 2, 3, 4);
        // A code that comes later is kept by no rule.
        x.code(5, 0);
        left(x, 2, 3, 4);
        // What it keeps fell before: it does not leave the others instead.
        x.rule(0, 0, 2, false);
        x.rule(0, 0, 3, false);
        x.rule(0, 0, 4, false);
        same("nothing of 1 and 5", x.answer(0, 0), 0);
        left(x);
    }

    private void whatIsLeft() {
        ClassifyRules x = withCodes(6);
        for (int q = 0; q <= 4; q++) {
            x.rule(q, q % 4, q + 1, false);
        }
        left(x, 1, 2, 3, 4, 5, 6);
        for (int q = 4; q >= 0; q--) {
            same("answers from question " + q, x.answer(q, q % 4), q + 1);
        }
        left(x, 6);
    }

    private void partsByOneAnswer() {
        for (int a = 0; a <= 3; a++) {
            ClassifyRules x = withCodes(2);
            x.rule(3, a, 1, false);
            next(x, 3, 1);
            ClassifyRules y = withCodes(2);
            y.rule(3, a, 1, true);
            next(y, 3, 1);
        }
    }

    private void partsNothing() {
        ClassifyRules x = withCodes(3);
        next(x, NONE, 0);
        // The same are left by other rules: 1 is kept, or 2 and 3 fall.
        x.rule(0, 0, 1, true);
        x.rule(0, 1, 2, false);
        x.rule(0, 1, 3, false);
        x.rule(0, 2, 1, true);
        x.rule(0, 2, 3, false);
        next(x, 0, 1);
        x.rule(0, 3, 1, true);
        next(x, NONE, 0);
        // As many are left, but not the same.
        ClassifyRules y = withCodes(2);
        for (int a = 0; a < 4; a++) {
            y.rule(2, a, a == 3 ? 2 : 1, false);
        }
        next(y, 2, 1);
    }

    private void partsOnlyNotAnswered() {
        ClassifyRules x = withCodes(2);
        x.rule(0, 0, 1, false);
        x.rule(4, 0, 1, false);
        next(x, 0, 2);
        x.answer(0, 3);
        next(x, 4, 1);
        x.answer(4, 3);
        next(x, NONE, 0);
        x.answer(0, NONE);
        next(x, 0, 1);
    }

    private void partsWhatIsLeft() {
        ClassifyRules x = withCodes(4);
        x.rule(0, 0, 1, false);
        x.rule(1, 0, 4, false);
        x.rule(2, 0, 1, false);
        x.rule(2, 0, 2, false);
        next(x, 0, 3);
        x.answer(2, 0);
        next(x, 1, 1);
        x.answer(1, 1);
        next(x, NONE, 0);
    }

    /** A question that lets codes fall with each answer would need no other, but parts nothing. */
    private void neverOneThatPartsNot() {
        ClassifyRules x = withCodes(3);
        for (int a = 0; a < 4; a++) {
            x.rule(0, a, 1, true);
        }
        next(x, NONE, 0);
        x.rule(1, 0, 2, false);
        x.rule(2, 0, 3, false);
        next(x, 1, 2);
        x.answer(1, 1);
        next(x, 2, 1);
        x.answer(0, 0);
        next(x, NONE, 0);
    }

    private void twoOrMoreLeft() {
        ClassifyRules x = new ClassifyRules();
        next(x, NONE, 0);
        x.code(1, 0);
        x.rule(0, 0, 1, false);
        next(x, NONE, 0);
        x.code(2, 0);
        next(x, 0, 1);
        x.rule(1, 1, 2, true);
        x.rule(1, 2, 1, false);
        x.rule(1, 2, 2, false);
        next(x, 0, 2);
        x.answer(1, 1);
        next(x, NONE, 0);
        x.answer(1, 2);
        next(x, NONE, 0);
        x.answer(1, 3);
        next(x, 0, 1);
    }

    /** Question a splits codes 1 .. 4 by their lowest bit, b by the other: two are needed. */
    private static void halves(ClassifyRules x, int a, int b) {
        for (int answer = 0; answer < 4; answer++) {
            int half = answer % 2;
            x.rule(a, answer, 1 + half, true);
            x.rule(a, answer, 3 + half, true);
            x.rule(b, answer, 1 + 2 * half, true);
            x.rule(b, answer, 2 + 2 * half, true);
        }
    }

    private void fewestAtWorst() {
        // Question 0 parts too, but leaves all at worst.
        ClassifyRules x = withCodes(4);
        halves(x, 1, 3);
        x.rule(0, 0, 1, true);
        next(x, 1, 2);
        // Each of the five that needs no other, beside two that halve.
        for (int q = 0; q <= 4; q++) {
            ClassifyRules y = withCodes(4);
            halves(y, (q + 1) % 5, (q + 2) % 5);
            for (int a = 0; a < 4; a++) {
                y.rule(q, a, a + 1, true);
            }
            next(y, q, 1);
        }
    }

    private void worstByAnyAnswer() {
        for (int worst = 0; worst <= 3; worst++) {
            ClassifyRules x = withCodes(3);
            for (int a = 0; a < 4; a++) {
                x.rule(0, a, 1, true);
                if (a == worst) {
                    x.rule(0, a, 2, true);
                }
                x.rule(1, a, a == 1 ? 2 : 1, true);
            }
            next(x, 1, 1);
            for (int a = 0; a < 4; a++) {
                x.rule(1, a, 3, true);
            }
            next(x, 0, 2);
        }
    }

    private void equalOnesTheLeast() {
        ClassifyRules x = withCodes(4);
        halves(x, 4, 3);
        next(x, 3, 2);
        ClassifyRules y = withCodes(4);
        halves(y, 0, 1);
        next(y, 0, 2);
        ClassifyRules z = withCodes(2);
        for (int q = 4; q >= 0; q--) {
            for (int a = 0; a < 4; a++) {
                z.rule(q, a, 1 + a % 2, true);
            }
            next(z, q, 1);
        }
    }

    private void fewerThanTwoOrNoneParts() {
        ClassifyRules x = new ClassifyRules();
        same("no code", x.needed(), 0);
        x.code(1, 0);
        for (int q = 0; q <= 4; q++) {
            x.rule(q, 0, 1, false);
        }
        same("one code", x.needed(), 0);
        x.code(2, 0);
        same("two codes, and all part them", x.needed(), 5);
        for (int q = 0; q <= 4; q++) {
            for (int a = 1; a < 4; a++) {
                x.rule(q, a, 1, false);
            }
            same("no longer " + q, x.needed(), 4 - q);
        }
        same("two are left", x.count(3), 2);
    }

    /** A question is asked once: what its own answer leaves it does not part again. */
    private void withoutIt() {
        ClassifyRules x = withCodes(12);
        for (int code = 1; code <= 12; code++) {
            x.rule(2, code % 4, code, true);
        }
        next(x, 2, 1);
        same("three are left", x.answer(2, 0), 3);
        next(x, NONE, 0);
    }

    private void allFiveNeeded() {
        ClassifyRules x = withCodes(12);
        for (int q = 0; q <= 4; q++) {
            x.rule(q, 3, q + 1, false);
            next(x, 0, q + 1);
        }
        for (int q = 0; q <= 4; q++) {
            next(x, q, 5 - q);
            x.answer(q, 0);
        }
        next(x, NONE, 0);
        same("all are left", x.count(3), 12);
    }

    private void theOne() {
        ClassifyRules x = new ClassifyRules();
        x.code(5, 0);
        code(x, 5, 2);
        x.code(6, 100);
        x.share(6, 1, 1);
        x.rule(0, 0, 6, false);
        x.answer(0, 0);
        code(x, 5, 2);
    }

    private void mostSpecific() {
        ClassifyRules x = new ClassifyRules();
        x.code(3, 100);
        x.code(9, 99);
        x.share(9, 1000, 1);
        code(x, 3, 3);
        x.code(1, 98);
        code(x, 3, 3);
        x.rule(0, 0, 3, false);
        x.answer(0, 0);
        code(x, 9, 3);
    }

    private void greatestShare() {
        ClassifyRules x = new ClassifyRules();
        x.code(2, 5);
        x.code(4, 5);
        x.code(6, 4);
        x.share(2, 1, 1000);
        x.share(6, 1000, 1);
        code(x, 2, 4);
        x.share(4, 1000, 1);
        x.share(2, 999, 1);
        code(x, 4, 4);
    }

    private void shareExactly() {
        // Each row: two shares, and which is greater (0: they are equal).
        int[][] rows = {{1, 3, 333, 999, 0}, {1, 3, 333, 1000, 1}, {1, 3, 334, 1000, 2}, {1000, 1000, 1, 1, 0},
            {999, 1000, 998, 999, 1}, {998, 999, 999, 1000, 2}, {1, 1000, 1, 999, 2}, {1000, 1, 999, 1, 1},
            {1000, 999, 999, 998, 2}, {0, 1, 0, 1000, 0}, {500, 1000, 499, 998, 0}, {1000, 1, 1000, 1, 0},
            {1000, 3, 999, 3, 1}, {1000, 7, 1000, 8, 1}, {2, 3, 666, 1000, 1}, {2, 3, 667, 1000, 2}};
        for (int[] row : rows) {
            ClassifyRules x = withCodes(2);
            x.share(1, row[0], row[1]);
            x.share(2, row[2], row[3]);
            code(x, row[4] == 1 ? 1 : 2, row[4] == 0 ? 5 : 4);
        }
    }

    private void lastInNumber() {
        for (int first = 1; first <= 3; first++) {
            ClassifyRules x = new ClassifyRules();
            x.code(first, 50);
            for (int number = 3; number >= 1; number--) {
                x.code(number, 50);
            }
            code(x, 3, 5);
            for (int number = 1; number <= 3; number++) {
                x.share(number, number, 2 * number);
            }
            code(x, 3, 5);
            x.code(999999, 49);
            code(x, 3, 5);
        }
    }

    private void noneIsLeft() {
        ClassifyRules x = new ClassifyRules();
        code(x, 0, 0);
        x.code(1, 100);
        x.share(1, 1, 1);
        x.rule(0, 0, 1, false);
        x.answer(0, 0);
        code(x, 0, 0);
    }

    private void twentyPrecedents() {
        ClassifyRules x = new ClassifyRules();
        for (int n = 1; n <= 20; n++) {
            same("precedent " + n, x.precedent(n, n % 5, n % 4, NONE, 0, n), n);
        }
        badState("one more", () -> x.precedent(21, 0, 0, NONE, 0, 21));
        badState("one that is there", () -> x.precedent(20, 0, 0, NONE, 0, 20));
        same("count(4)", x.count(4), 20);
    }

    private void oneOrTwoAnswers() {
        ClassifyRules x = new ClassifyRules();
        x.precedent(8, 0, 3, 4, 0, 9);
        x.answer(0, 3);
        code(x, 0, 0);
        x.answer(4, 1);
        code(x, 0, 0);
        x.answer(4, 0);
        code(x, 8, 1);
        x.answer(0, 2);
        code(x, 0, 0);
        x.answer(0, NONE);
        code(x, 0, 0);
        x.precedent(9, 4, 0, NONE, 2, 9);
        code(x, 9, 1);
        x.answer(4, NONE);
        code(x, 0, 0);
    }

    private void upToItsDay() {
        ClassifyRules x = new ClassifyRules();
        x.answer(1, 1);
        x.precedent(5, 1, 1, NONE, 0, 0);
        code(x, 5, 1);
        x.day(1);
        code(x, 0, 0);
        x.precedent(6, 1, 1, NONE, 0, 0);
        same("a day that is over already", x.count(5), 0);
        x.precedent(7, 1, 1, NONE, 0, 99999);
        x.day(99999);
        code(x, 7, 1);
        x.precedent(8, 1, 1, NONE, 0, 100000);
        same("both", x.count(5), 2);
        x.day(100000);
        same("the last day of all", x.count(5), 1);
        code(x, 8, 1);
    }

    private void whateverIsLeft() {
        ClassifyRules x = withCodes(2);
        x.precedent(999999, 0, 0, NONE, 0, 9);
        x.precedent(1, 1, 0, NONE, 0, 9);
        x.rule(1, 0, 1, false);
        x.rule(2, 0, 2, false);
        x.answer(0, 0);
        code(x, 999999, 1);
        x.answer(0, NONE);
        x.answer(1, 0);
        left(x, 2);
        code(x, 1, 1);
        x.answer(2, 0);
        left(x);
        code(x, 1, 1);
        ClassifyRules y = withTwentyPrecedents();
        y.answer(0, 0);
        same("twenty of one code", y.contradicts(), false);
        code(y, 7, 1);
    }

    private void severalContradict() {
        int[][] orders = {{5, 6}, {5, 5, 6}, {5, 6, 5}, {6, 5, 5}, {5, 6, 7}};
        for (int[] order : orders) {
            ClassifyRules x = withCodes(3);
            for (int number : order) {
                x.precedent(number, 0, 0, NONE, 0, 9);
            }
            x.answer(0, 0);
            same("contradicts()", x.contradicts(), true);
            same("they hold", x.count(5), order.length);
            code(x, 3, 5);
        }
    }

    private void orderOfAnswers() {
        ClassifyRules x = withCodes(2);
        x.rule(0, 1, 1, false);
        x.rule(1, 2, 1, false);
        x.rule(2, 3, 2, false);
        x.answer(1, 2);
        x.answer(0, 1);
        x.answer(2, 3);
        same("the last of three", x.emptied(), 11);
        same("the first of three", x.explain(1), 6);
        x.answer(1, 2);
        same("given once more", x.explain(1), 6);
        x.answer(1, 0);
        x.answer(1, 2);
        same("changed and changed back", x.explain(1), 1);
        x.answer(0, NONE);
        same("now the last", x.emptied(), 6);
        x.answer(0, 1);
        same("given again after it was taken back", x.explain(1), 6);
    }

    private void leftNothingFirst() {
        ClassifyRules x = withCodes(1);
        for (int q = 0; q <= 4; q++) {
            x.rule(q, 3, 1, false);
        }
        for (int q = 4; q >= 0; q--) {
            x.answer(q, 3);
            same("still the first", x.emptied(), 19);
        }
        for (int q = 4; q >= 1; q--) {
            x.answer(q, NONE);
            same("the first of those that are given", x.emptied(), 4 * (q - 1) + 3);
        }
        x.answer(0, NONE);
        same("none is given", x.emptied(), NONE);
    }

    private void days() {
        for (int day : NO_DAY) {
            ClassifyRules x = new ClassifyRules();
            same("day " + day, x.day(day), false);
            badArgument("until " + day, () -> x.precedent(1, 0, 0, NONE, 0, day));
        }
        for (int day : new int[] {0, 1, 99999, 100000}) {
            ClassifyRules x = new ClassifyRules();
            same("until " + day, x.precedent(1, 0, 0, NONE, 0, day), 1);
            same("day " + day, x.day(day), true);
            same("TODAY", x.count(6), day);
        }
    }

    private void neverBack() {
        ClassifyRules x = new ClassifyRules();
        same("at first", x.count(6), 0);
        for (int day : new int[] {0, 1, 2, 50000, 99999, 100000}) {
            same("on to " + day, x.day(day), true);
            same("back from " + day, x.day(day - 1), false);
            same("TODAY", x.count(6), day);
        }
        same("back to the first", x.day(0), false);
        same("still the last", x.count(6), 100000);
    }

    private void toldFirst() {
        ClassifyRules x = withSixtyRules();
        for (int n = 0; n < 20; n++) {
            x.precedent(7, 0, 0, NONE, 0, 10);
        }
        badArgument("code, full: number", () -> x.code(0, 0));
        badArgument("code, full: specific", () -> x.code(20, 101));
        badArgument("code, full and there: specific", () -> x.code(1, -1));
        badArgument("rule, full: question", () -> x.rule(5, 0, 1, true));
        badArgument("rule, full: answer", () -> x.rule(0, 4, 1, true));
        badArgument("rule, full: code", () -> x.rule(0, 0, 13, true));
        badArgument("precedent, full: code", () -> x.precedent(0, 0, 0, NONE, 0, 10));
        badArgument("precedent, full: first", () -> x.precedent(7, 5, 0, NONE, 0, 10));
        badArgument("precedent, full: answer", () -> x.precedent(7, 0, 4, NONE, 0, 10));
        badArgument("precedent, full: second", () -> x.precedent(7, 0, 0, 5, 0, 10));
        badArgument("precedent, full: other", () -> x.precedent(7, 0, 0, 1, 4, 10));
        badArgument("precedent, full: one question", () -> x.precedent(7, 0, 0, 0, 0, 10));
        badArgument("precedent, full: day", () -> x.precedent(7, 0, 0, NONE, 0, 100001));
    }

    private void numbers() {
        says("An object is used for at most 512 calls after it has been made", this::callsUpTo512);
        says("CODES are numbers 1 .. 999999", this::codeNumbers);
        says("(12 at most", this::twelveCodes);
        says("each once)", this::eachCodeOnce);
        says("kept by number", this::codesByNumber);
        says("each has how SPECIFIC it is and a SHARE", this::codesMoveWhole);
        says("each has how SPECIFIC it is (0 .. 100)", this::howSpecific);
        says("a SHARE up / down (0 / 1 at first", this::shareAtFirst);
        says("0 .. 1000 by 1 .. 1000)", this::shareLimits);
        says("QUESTIONS 0 .. 4 have ANSWERS 0 .. 3", this::questionsAndAnswers);
        says("one of them or none is given", this::oneAnswerOrNone);
        says("RULES (60 at most)", this::sixtyRules);
        says("(each question, answer and code once)", this::eachRuleOnce);
    }

    private void questions() {
        says("and of these none that falls", this::answerWithoutKept);
        says("if a rule keeps some code with it, those alone that are kept", this::answerWithKept);
        says("LEFT are the codes that all given answers leave", this::whatIsLeft);
        says("PARTS codes if two of its answers leave not the same of them", this::partsByOneAnswer);
        says("leave not the same of them", this::partsNothing);
        says("A question that was not answered", this::partsOnlyNotAnswered);
        says("of those that part them", this::partsWhatIsLeft);
        says("of those that part them, and of no others", this::neverOneThatPartsNot);
        says("if two codes or more are LEFT", this::twoOrMoreLeft);
        says("one with which the fewest are needed at worst", this::fewestAtWorst);
        says("the greatest NEEDED of what its answers leave", this::worstByAnyAnswer);
        says("Of equal ones the least", this::equalOnesTheLeast);
        says("0 if there are fewer than two codes, or none of the questions parts them", this::fewerThanTwoOrNoneParts);
        says("without it", this::withoutIt);
        says("else 1 and, for the best question that parts them", this::allFiveNeeded);
    }

    private void theCode() {
        says("of what is LEFT: the one", this::theOne);
        says("of several the one that is most SPECIFIC", this::mostSpecific);
        says("of equal ones that with the greatest SHARE", this::greatestShare);
        says("(exactly)", this::shareExactly);
        says("of equal ones the last in number", this::lastInNumber);
        says("0 if none is LEFT", this::noneIsLeft);
        says("PRECEDENTS (20 at most)", this::twentyPrecedents);
        says("with up to two answers to questions a code", this::oneOrTwoAnswers);
        says("up to a day (that included)", this::upToItsDay);
        says("(whatever is LEFT; also one that is no code here)", this::whateverIsLeft);
        says("if they have several, they CONTRADICT, and none counts", this::severalContradict);
    }

    private void ordersAndDays() {
        says("one that is changed counts as given then, one given once more as it was not", this::orderOfAnswers);
        says("with which those up to it left nothing first", this::leftNothingFirst);
        says("DAYS are 0 .. 100000", this::days);
        says("TODAY is 0 at first and never goes back", this::neverBack);
        says("Of several exceptions the one told first is thrown", this::toldFirst);
        says("`NONE = -1`", () -> same("NONE", ClassifyRules.NONE, -1));
    }

    public static void main(String[] args) {
        TermsTest test = new TermsTest();
        test.numbers();
        test.questions();
        test.theCode();
        test.ordersAndDays();
        test.end();
    }
}
