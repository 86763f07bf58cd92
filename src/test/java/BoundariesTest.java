/** A test for each sentence of promises 1 to 16 that names a boundary case. */
public final class BoundariesTest extends Looks {

    private void nothingAtFirst() {
        ClassifyRules x = new ClassifyRules();
        for (int what = 0; what <= 6; what++) {
            same("count(" + what + ")", x.count(what), 0);
        }
        for (int q = 0; q <= 4; q++) {
            same("count(" + (10 + q) + ")", x.count(10 + q), NONE);
        }
        left(x);
        next(x, NONE, 0);
        code(x, 0, 0);
        same("emptied()", x.emptied(), NONE);
        same("contradicts()", x.contradicts(), false);
        same("share(1, 0, 1)", x.share(1, 0, 1), false);
        badArgument("explain(1)", () -> x.explain(1));
        badArgument("rule(0, 0, 1, true)", () -> x.rule(0, 0, 1, true));
        same("an answer where nothing is", x.answer(0, 0), 0);
        same("is given all the same", x.count(2), 1);
    }

    private void objectsApart() {
        ClassifyRules x = withSixtyRules();
        x.answer(0, 0);
        x.precedent(9, 0, 0, NONE, 0, 100);
        x.day(50);
        nothingAtFirst();
        same("the first object's codes", x.count(0), 12);
        ClassifyRules y = withCodes(2);
        ClassifyRules z = new ClassifyRules();
        y.rule(0, 0, 1, false);
        y.precedent(5, 1, 0, NONE, 0, 9);
        z.code(8, 3);
        z.code(9, 0);
        z.share(9, 1, 1);
        z.rule(0, 0, 9, false);
        z.precedent(6, 1, 0, NONE, 0, 0);
        y.answer(0, 0);
        z.answer(1, 0);
        z.day(1);
        left(y, 2);
        left(z, 8, 9);
        code(y, 2, 2);
        code(z, 8, 3);
        y.answer(1, 0);
        code(y, 5, 1);
        z.answer(0, 0);
        left(z, 8);
        next(y, NONE, 0);
    }

    private void howManyCodes() {
        ClassifyRules x = new ClassifyRules();
        for (int n = 1; n <= 12; n++) {
            same("code " + n, x.code(100 - n, 0), n);
            same("count(0)", x.count(0), n);
        }
    }

    private void isACode() {
        ClassifyRules x = new ClassifyRules();
        x.code(5, 50);
        x.code(6, 51);
        same("as it is", x.code(5, 50), 0);
        same("more specific", x.code(5, 100), 0);
        same("count(0)", x.count(0), 2);
        code(x, 6, 3);
    }

    private void codeCannotBe() {
        ClassifyRules x = new ClassifyRules();
        for (int number : NO_NUMBER) {
            badArgument("code " + number, () -> x.code(number, 50));
            badArgument("code " + number + " and specific 101", () -> x.code(number, 101));
        }
        same("count(0)", x.count(0), 0);
    }

    private void specificCannotBe() {
        ClassifyRules x = withCodes(1);
        for (int specific : NO_SPECIFIC) {
            badArgument("a new one", () -> x.code(2, specific));
            badArgument("one that is there", () -> x.code(1, specific));
        }
        same("count(0)", x.count(0), 1);
    }

    private void twelveAreThere() {
        ClassifyRules x = withCodes(11);
        same("one that is there, of 11", x.code(1, 0), 0);
        same("the 12th", x.code(12, 0), 12);
        badState("the 13th", () -> x.code(13, 0));
        badState("the 13th, 999999 and 100", () -> x.code(999999, 100));
        for (int n = 1; n <= 12; n++) {
            int number = n;
            badState("one that is there, of 12: " + n, () -> x.code(number, 0));
        }
        same("count(0)", x.count(0), 12);
    }

    private void shareOfACode() {
        ClassifyRules x = withCodes(12);
        for (int n = 1; n <= 12; n++) {
            same("share of " + n, x.share(n, n, 1000), true);
            code(x, n, 4);
        }
        same("once more, less", x.share(12, 0, 1), true);
        code(x, 11, 4);
    }

    private void shareOfNone() {
        ClassifyRules x = new ClassifyRules();
        same("no codes at all", x.share(1, 1, 1), false);
        x.code(5, 0);
        for (int number : NO_NUMBER) {
            same("share of " + number, x.share(number, 1, 1), false);
        }
        same("below", x.share(4, 1, 1), false);
        same("above", x.share(6, 1, 1), false);
        same("the place of a code", x.share(0, 1, 1), false);
    }

    private void shareCannotBe() {
        ClassifyRules x = withCodes(2);
        x.share(1, 1, 2);
        int[][] wrong = {{-1, 1}, {1001, 1}, {LOW, 1}, {HIGH, 1}, {0, 0}, {1000, 0}, {1, -1}, {1, 1001}, {1, LOW},
            {1, HIGH}, {-1, -1}, {LOW, LOW}, {HIGH, HIGH}, {1001, 1001}};
        for (int[] w : wrong) {
            same("share " + w[0] + " / " + w[1], x.share(2, w[0], w[1]), false);
            code(x, 1, 4);
        }
    }

    private void howManyRules() {
        ClassifyRules x = withCodes(12);
        int n = 0;
        for (int q = 0; q <= 4; q++) {
            for (int a = 0; a <= 3; a++) {
                for (int number : new int[] {1, 6, 12}) {
                    n++;
                    same("rule " + n, x.rule(q, a, number, false), n);
                }
            }
        }
        same("count(1)", x.count(1), 60);
        for (int q = 0; q <= 4; q++) {
            for (int a = 0; a <= 3; a++) {
                same("what " + q + " " + a + " leaves", x.answer(q, a), 9);
            }
        }
        left(x, 2, 3, 4, 5, 7, 8, 9, 10, 11);
    }

    private void oneForThese() {
        ClassifyRules x = withCodes(2);
        for (int q = 0; q <= 4; q++) {
            for (int a = 0; a <= 3; a++) {
                x.rule(q, a, 1, true);
                same("it is kept already", x.rule(q, a, 1, true), 0);
                same("it falls", x.rule(q, a, 1, false), 0);
                x.rule(q, a, 2, false);
                same("it falls already", x.rule(q, a, 2, false), 0);
                same("it is kept", x.rule(q, a, 2, true), 0);
            }
        }
        same("count(1)", x.count(1), 40);
        x.answer(0, 0);
        left(x, 1);
    }

    private void noSuchRule() {
        ClassifyRules x = withCodes(1);
        for (int q : NO_QUESTION) {
            badArgument("question " + q, () -> x.rule(q, 0, 1, true));
        }
        for (int a : NO_ANSWER) {
            badArgument("answer " + a, () -> x.rule(0, a, 1, true));
            badArgument("answer " + a + " to the last question", () -> x.rule(4, a, 1, false));
        }
        for (int number : NO_NUMBER) {
            badArgument("code " + number, () -> x.rule(0, 0, number, true));
        }
        badArgument("a code that could be one", () -> x.rule(0, 0, 2, false));
        same("count(1)", x.count(1), 0);
    }

    private void sixtyAreThere() {
        ClassifyRules x = withSixtyRules();
        badState("one more", () -> x.rule(0, 1, 1, true));
        badState("one more that falls", () -> x.rule(4, 0, 12, false));
        badState("one that is there", () -> x.rule(0, 0, 1, true));
        badState("one that is there, the other way", () -> x.rule(0, 0, 1, false));
        same("count(1)", x.count(1), 60);
    }

    private void givenOrChanged() {
        ClassifyRules x = withCodes(4);
        for (int a = 0; a <= 3; a++) {
            for (int number = 1; number <= a; number++) {
                x.rule(4, a, number, false);
            }
        }
        for (int a = 0; a <= 3; a++) {
            same("answer " + a, x.answer(4, a), 4 - a);
            same("count(14)", x.count(14), a);
            same("count(2)", x.count(2), 1);
        }
        x.rule(4, 3, 4, false);
        same("given once more, with a rule that came since", x.answer(4, 3), 0);
        same("changed back", x.answer(4, 0), 4);
    }

    private void takenBack() {
        ClassifyRules x = withCodes(2);
        x.rule(0, 0, 1, false);
        for (int q = 0; q <= 4; q++) {
            same("taken back before it was given", x.answer(q, NONE), 2);
        }
        same("count(2)", x.count(2), 0);
        x.answer(0, 0);
        x.answer(1, 0);
        same("taken back", x.answer(0, NONE), 2);
        same("twice", x.answer(0, NONE), 2);
        same("count(2) then", x.count(2), 1);
        same("count(10)", x.count(10), NONE);
        same("count(11)", x.count(11), 0);
    }

    private void noSuchAnswer() {
        ClassifyRules x = withCodes(1);
        for (int q : NO_QUESTION) {
            for (int a : new int[] {NONE, 0, 3, 4}) {
                badArgument("answer " + a + " to " + q, () -> x.answer(q, a));
            }
        }
        for (int a : new int[] {LOW, -2, 4, 5, HIGH}) {
            badArgument("answer " + a + " to 0", () -> x.answer(0, a));
            badArgument("answer " + a + " to 4", () -> x.answer(4, a));
        }
        same("count(2)", x.count(2), 0);
    }

    private void noQuestionForFew() {
        ClassifyRules x = new ClassifyRules();
        same("no codes", x.question(), NONE);
        x.code(1, 0);
        x.code(2, 0);
        x.rule(0, 0, 1, false);
        x.rule(0, 1, 2, false);
        x.rule(0, 1, 1, false);
        x.rule(1, 0, 1, false);
        same("two are left", x.question(), 0);
        x.answer(0, 0);
        same("one is left", x.question(), NONE);
        x.answer(0, 1);
        same("none is left", x.question(), NONE);
        x.answer(0, 2);
        same("two are left again", x.question(), 1);
    }

    private void noQuestionParts() {
        ClassifyRules x = withCodes(12);
        same("no rules", x.question(), NONE);
        x.rule(4, 3, 12, true);
        same("the last question", x.question(), 4);
        x.answer(4, 0);
        same("it is answered", x.question(), NONE);
        same("all are left", x.count(3), 12);
        ClassifyRules y = withCodes(2);
        for (int q = 0; q <= 4; q++) {
            y.rule(q, 0, 1, false);
            y.answer(q, 1);
        }
        same("all are answered", y.question(), NONE);
        same("and two are left", y.count(3), 2);
    }

    private void neededForWhatIsLeft() {
        ClassifyRules x = withCodes(2);
        for (int q = 0; q <= 4; q++) {
            x.rule(q, 0, 1, false);
        }
        same("all five", x.needed(), 5);
        for (int q = 0; q <= 4; q++) {
            x.answer(q, 3);
            same("after " + q, x.needed(), 4 - q);
        }
        x.answer(2, NONE);
        same("one taken back", x.needed(), 1);
        x.answer(0, 0);
        same("one code is left", x.needed(), 0);
        x.answer(0, NONE);
        same("two taken back", x.needed(), 2);
    }

    /** What a precedent says does not change what is asked. */
    private void neededWithPrecedent() {
        ClassifyRules x = withCodes(2);
        x.rule(1, 0, 1, false);
        x.precedent(1, 0, 0, NONE, 0, 9);
        x.answer(0, 0);
        code(x, 1, 1);
        next(x, 1, 1);
    }

    private void noCode() {
        ClassifyRules x = new ClassifyRules();
        same("no codes", x.found(), 0);
        x.code(1, 0);
        x.rule(0, 0, 1, false);
        x.answer(0, 0);
        same("none left", x.found(), 0);
        x.precedent(5, 0, 0, NONE, 0, 0);
        x.precedent(6, 0, 0, NONE, 0, 1);
        same("none left, and precedents contradict", x.found(), 0);
        x.day(1);
        same("none left, and one holds", x.found(), 6);
        x.day(2);
        same("none left, and none holds", x.found(), 0);
    }

    private void whyEach() {
        ClassifyRules x = new ClassifyRules();
        same("none", x.why(), 0);
        x.code(2, 7);
        same("the one", x.why(), 2);
        x.code(3, 7);
        same("two alike", x.why(), 5);
        x.share(2, 1, 1000);
        same("a share", x.why(), 4);
        x.code(1, 8);
        same("a more specific one", x.why(), 3);
        x.precedent(3, 0, 0, NONE, 0, 0);
        same("a precedent that does not hold", x.why(), 3);
        x.answer(0, 0);
        same("one that holds", x.why(), 1);
        x.precedent(2, 0, 0, NONE, 0, 0);
        same("they contradict", x.why(), 3);
        x.rule(0, 0, 2, true);
        same("they contradict, and one is left", x.why(), 2);
        x.rule(1, 0, 2, false);
        x.answer(1, 0);
        same("they contradict, and none is left", x.why(), 0);
    }

    /** Some of those left are alike: what parts the best from the others counts. */
    private void whyOfSeveral() {
        ClassifyRules x = new ClassifyRules();
        x.code(1, 9);
        x.code(2, 9);
        x.code(3, 9);
        x.code(4, 8);
        code(x, 3, 5);
        x.share(1, 1, 2);
        x.share(2, 2, 4);
        code(x, 2, 5);
        x.share(1, 501, 1000);
        code(x, 1, 4);
        x.code(5, 10);
        code(x, 5, 3);
    }

    private void leftAt() {
        ClassifyRules x = withCodes(12);
        for (int i = 0; i < 12; i++) {
            same("left(" + i + ")", x.left(i), i + 1);
        }
        for (int i : new int[] {LOW, -2, -1, 12, 13, 31, 32, 33, HIGH}) {
            same("left(" + i + ")", x.left(i), NONE);
        }
        x.rule(0, 0, 1, false);
        x.rule(0, 0, 7, false);
        x.rule(0, 0, 12, false);
        x.answer(0, 0);
        left(x, 2, 3, 4, 5, 6, 8, 9, 10, 11);
        x.rule(1, 0, 12, true);
        x.answer(1, 0);
        same("left(0) of nothing", x.left(0), NONE);
        same("left(-1) of nothing", x.left(-1), NONE);
    }

    private void emptiedByEach() {
        for (int q = 0; q <= 4; q++) {
            for (int a = 0; a <= 3; a++) {
                ClassifyRules x = withCodes(2);
                x.rule(q, a, 1, false);
                x.rule(q, a, 2, false);
                x.answer((q + 1) % 5, 2);
                x.answer(q, a);
                same("by " + q + " " + a, x.emptied(), 4 * q + a);
                x.answer(q, NONE);
                same("no longer", x.emptied(), NONE);
            }
        }
    }

    private void emptiedNone() {
        ClassifyRules x = new ClassifyRules();
        same("no codes and no answers", x.emptied(), NONE);
        x.answer(0, 0);
        x.answer(4, 3);
        same("no codes and two answers", x.emptied(), NONE);
        x.code(1, 0);
        same("a code that is left", x.emptied(), NONE);
        x.rule(4, 3, 1, false);
        same("a code that is not", x.emptied(), 19);
        x.code(2, 0);
        same("another that is left", x.emptied(), NONE);
        x.precedent(2, 0, 0, NONE, 0, 9);
        x.rule(0, 0, 2, false);
        same("a precedent leaves nothing", x.emptied(), 19);
    }

    private void explainEach() {
        for (int q = 0; q <= 4; q++) {
            for (int a = 0; a <= 3; a++) {
                ClassifyRules x = withCodes(2);
                x.rule(q, a, 1, false);
                x.answer((q + 1) % 5, 2);
                x.answer(q, a);
                x.answer((q + 2) % 5, 1);
                same("1 fell with " + q + " " + a, x.explain(1), 4 * q + a);
                same("2 is left", x.explain(2), NONE);
                ClassifyRules y = withCodes(2);
                y.rule(q, a, 1, true);
                y.answer(q, a);
                same("2 was not kept with " + q + " " + a, y.explain(2), 4 * q + a);
                same("1 was", y.explain(1), NONE);
            }
        }
    }

    /** With all five answered there is no answer behind the last. */
    private void allAnswered() {
        ClassifyRules x = withCodes(2);
        x.rule(4, 3, 1, false);
        for (int q = 0; q <= 4; q++) {
            x.answer(q, 3);
        }
        same("2 is left", x.explain(2), NONE);
        same("1 fell with the last", x.explain(1), 19);
        same("something is left", x.emptied(), NONE);
        x.rule(4, 3, 2, false);
        same("nothing is left, with the last", x.emptied(), 19);
        x.rule(0, 3, 2, true);
        same("1 fell with the first", x.explain(1), 3);
        same("2 with the last", x.explain(2), 19);
    }

    private void explainFirst() {
        ClassifyRules x = withCodes(2);
        x.rule(3, 0, 1, false);
        x.rule(1, 3, 1, false);
        x.rule(1, 3, 2, false);
        x.answer(3, 0);
        x.answer(1, 3);
        same("1 fell with the first", x.explain(1), 12);
        same("2 with the second", x.explain(2), 7);
        x.answer(3, 1);
        same("1 with the one that was the second", x.explain(1), 7);
        x.answer(3, 0);
        same("still so", x.explain(1), 7);
        x.answer(1, NONE);
        same("with what is given", x.explain(1), 12);
        same("2 is left", x.explain(2), NONE);
    }

    private void explainNoCode() {
        ClassifyRules x = new ClassifyRules();
        badArgument("1 of nothing", () -> x.explain(1));
        x.code(5, 0);
        x.precedent(9, 0, 0, NONE, 0, 9);
        for (int number : NO_NUMBER) {
            badArgument("explain " + number, () -> x.explain(number));
        }
        badArgument("below", () -> x.explain(4));
        badArgument("above", () -> x.explain(6));
        badArgument("a precedent's alone", () -> x.explain(9));
        same("5", x.explain(5), NONE);
    }

    private void otherDoesNotMatter() {
        ClassifyRules x = new ClassifyRules();
        int n = 0;
        for (int other : new int[] {LOW, -2, NONE, 0, 1, 3, 4, HIGH}) {
            n++;
            same("other " + other, x.precedent(9, 2, 1, NONE, other, 5), n);
        }
        x.answer(2, 1);
        same("all hold", x.count(5), n);
        x.answer(0, 0);
        same("whatever else is given", x.count(5), n);
        code(x, 9, 1);
    }

    private void noQuestionsAndAnswers() {
        ClassifyRules x = new ClassifyRules();
        for (int q : NO_QUESTION) {
            badArgument("first " + q, () -> x.precedent(9, q, 0, 1, 0, 5));
            badArgument("first " + q + " alone", () -> x.precedent(9, q, 0, NONE, 0, 5));
            if (q != NONE) {
                badArgument("second " + q, () -> x.precedent(9, 1, 0, q, 0, 5));
            }
        }
        for (int a : NO_ANSWER) {
            badArgument("answer " + a, () -> x.precedent(9, 0, a, 1, 0, 5));
            badArgument("answer " + a + " alone", () -> x.precedent(9, 0, a, NONE, 0, 5));
            badArgument("other " + a, () -> x.precedent(9, 0, 0, 1, a, 5));
            badArgument("other " + a + " to the last", () -> x.precedent(9, 0, 0, 4, a, 5));
        }
        same("count(4)", x.count(4), 0);
    }

    private void oneQuestion() {
        for (int q = 0; q <= 4; q++) {
            ClassifyRules x = new ClassifyRules();
            int question = q;
            badArgument(q + " twice, one answer", () -> x.precedent(9, question, 1, question, 1, 5));
            badArgument(q + " twice, two answers", () -> x.precedent(9, question, 1, question, 2, 5));
            same(q + " and the next, one answer", x.precedent(9, q, 1, (q + 1) % 5, 1, 5), 1);
            x.answer(q, 1);
            same("half of it", x.count(5), 0);
            x.answer((q + 1) % 5, 1);
            same("all of it", x.count(5), 1);
        }
    }

    private void precedentCodeCannotBe() {
        ClassifyRules x = new ClassifyRules();
        for (int number : NO_NUMBER) {
            badArgument("code " + number, () -> x.precedent(number, 0, 0, NONE, 0, 5));
        }
        x.answer(0, 0);
        x.answer(1, 1);
        same("1", x.precedent(1, 0, 0, NONE, 0, 0), 1);
        same("found()", x.found(), 1);
        x.day(1);
        same("999999", x.precedent(999999, 1, 1, NONE, 0, 5), 2);
        same("found() then", x.found(), 999999);
    }

    private void noSuchDay() {
        ClassifyRules x = new ClassifyRules();
        for (int day : NO_DAY) {
            badArgument("until " + day, () -> x.precedent(9, 0, 0, NONE, 0, day));
            badArgument("two, until " + day, () -> x.precedent(9, 0, 0, 1, 0, day));
        }
        same("0", x.precedent(9, 0, 0, NONE, 0, 0), 1);
        same("100000", x.precedent(9, 0, 0, NONE, 0, 100000), 2);
        x.day(7);
        same("a day that is over", x.precedent(9, 0, 0, NONE, 0, 6), 3);
    }

    private void twentyPrecedentsAreThere() {
        ClassifyRules x = withTwentyPrecedents();
        badState("the 21st", () -> x.precedent(8, 0, 1, 1, 1, 20));
        x.day(11);
        badState("the 21st where none holds any more", () -> x.precedent(8, 0, 1, NONE, 0, 20));
        same("count(4)", x.count(4), 20);
    }

    private void whetherTheyContradict() {
        ClassifyRules x = new ClassifyRules();
        same("no precedents", x.contradicts(), false);
        x.precedent(5, 0, 0, NONE, 0, 1);
        x.precedent(6, 0, 0, 1, 0, 2);
        x.precedent(6, 0, 0, 2, 0, 3);
        same("none holds", x.contradicts(), false);
        x.answer(0, 0);
        same("one holds", x.contradicts(), false);
        x.answer(1, 0);
        same("two hold", x.contradicts(), true);
        x.day(1);
        same("on the last day of one", x.contradicts(), true);
        x.day(2);
        same("behind it", x.contradicts(), false);
        x.answer(2, 0);
        same("two of one code", x.contradicts(), false);
        same("both hold", x.count(5), 2);
    }

    private void dayRefused() {
        ClassifyRules x = new ClassifyRules();
        for (int day : NO_DAY) {
            same("day " + day, x.day(day), false);
        }
        same("the first", x.day(0), true);
        same("on", x.day(100), true);
        same("the same", x.day(100), true);
        same("before it", x.day(99), false);
        same("0", x.day(0), false);
        same("TODAY", x.count(6), 100);
        same("the last", x.day(100000), true);
        same("the last again", x.day(100000), true);
        same("above it", x.day(100001), false);
        same("TODAY then", x.count(6), 100000);
    }

    private void countEach() {
        ClassifyRules x = withCodes(6);
        x.rule(0, 2, 1, false);
        x.rule(0, 2, 2, false);
        x.rule(1, 0, 3, false);
        x.rule(1, 1, 4, false);
        x.rule(1, 2, 4, false);
        x.answer(0, 2);
        x.answer(4, 3);
        x.answer(1, 0);
        x.precedent(7, 0, 2, NONE, 0, 9);
        x.precedent(8, 0, 2, NONE, 0, 9);
        x.precedent(8, 0, 2, NONE, 0, 8);
        x.precedent(8, 0, 1, NONE, 0, 9);
        x.day(9);
        int[] due = {6, 5, 3, 3, 4, 2, 9};
        for (int what = 0; what < due.length; what++) {
            same("count(" + what + ")", x.count(what), due[what]);
        }
        int[] given = {2, 0, NONE, NONE, 3};
        for (int q = 0; q < given.length; q++) {
            same("count(" + (10 + q) + ")", x.count(10 + q), given[q]);
        }
    }

    private void countOfAnother() {
        ClassifyRules x = withCodes(2);
        for (int q = 0; q <= 4; q++) {
            x.answer(q, 3);
        }
        x.day(5);
        for (int what : new int[] {LOW, LOW + 9, LOW + 10, LOW + 14, -10, -2, -1, 7, 8, 9, 15, 16, 20, HIGH - 9, HIGH}) {
            same("count(" + what + ")", x.count(what), NONE);
        }
    }

    private void oneToFour() {
        says("1: No codes, rules, answers", this::nothingAtFirst);
        says("1: A new object", this::objectsApart);
        says("2: how many there are", this::howManyCodes);
        says("2: 0 if it is one", this::isACode);
        says("2: IllegalArgumentException if it can't be", this::codeCannotBe);
        says("2: or how SPECIFIC", this::specificCannotBe);
        says("2: IllegalStateException if there are 12", this::twelveAreThere);
        says("3: A code's SHARE: true", this::shareOfACode);
        says("3: false if it is none", this::shareOfNone);
        says("3: or up or down can't be", this::shareCannotBe);
        says("4: how many there are", this::howManyRules);
        says("4: 0 if there is one for these", this::oneForThese);
        says("4: IllegalArgumentException if there is no such question, answer or code", this::noSuchRule);
        says("4: IllegalStateException if there are 60", this::sixtyAreThere);
    }

    private void fiveToNine() {
        says("5: An answer is given (or changed)", this::givenOrChanged);
        says("5: or with NONE taken back", this::takenBack);
        says("5: IllegalArgumentException if there is no such question or answer", this::noSuchAnswer);
        says("6: NONE if fewer than two codes are LEFT", this::noQuestionForFew);
        says("6: or none parts them", this::noQuestionParts);
        says("7: How many questions are NEEDED at worst for what is LEFT", this::neededForWhatIsLeft);
        says("7: for what is LEFT, a precedent or not", this::neededWithPrecedent);
        says("8: 0 if there is none", this::noCode);
        says("9: How THE CODE was found", this::whyEach);
        says("9: 3 the most specific, 4 the greatest share, 5 the last in number", this::whyOfSeveral);
    }

    private void tenToSixteen() {
        says("10: NONE without", this::leftAt);
        says("11: 4 times the question and the answer", this::emptiedByEach);
        says("11: NONE if something is LEFT, or there are no codes", this::emptiedNone);
        says("12: NONE if it is LEFT", this::explainEach);
        says("11 and 12: of five answers, the last", this::allAnswered);
        says("12: the first answer, in the order in which they were given", this::explainFirst);
        says("12: IllegalArgumentException if it is no code", this::explainNoCode);
        says("13: the second NONE: to one alone; its answer does not matter then", this::otherDoesNotMatter);
        says("13: IllegalArgumentException if these are no questions and answers", this::noQuestionsAndAnswers);
        says("13: are one question", this::oneQuestion);
        says("13: the code is not 1 .. 999999", this::precedentCodeCannotBe);
        says("13: or there is no such day", this::noSuchDay);
        says("13: IllegalStateException if there are 20", this::twentyPrecedentsAreThere);
        says("14: Whether precedents that hold CONTRADICT", this::whetherTheyContradict);
        says("15: false if it is ahead of TODAY or above 100000", this::dayRefused);
        says("16: what 0 .. 6 and 10 + q", this::countEach);
        says("16: NONE for another what", this::countOfAnother);
    }

    public static void main(String[] args) {
        BoundariesTest test = new BoundariesTest();
        test.oneToFour();
        test.fiveToNine();
        test.tenToSixteen();
        test.end();
    }
}
