import java.util.ArrayList;
import java.util.List;

/**
 * "What throws or is refused changes nothing": of two objects made alike one gets the
 * refused call; from then on both must answer the same, whatever is done with them.
 */
public final class UnchangedTest extends Looks {
    /** A call on an object, as a number. */
    private interface Call {
        int on(ClassifyRules x);
    }

    private record Refused(String name, Call call, String due) { }

    private static final String ARGUMENT = "throws.IllegalArgumentException";
    private static final String STATE = "throws.IllegalStateException";
    private static final String FALSE = "0";

    private static final int NEW = 0;
    private static final int HALF_FULL = 1;
    private static final int FULL = 2;

    private final List<Refused> calls = new ArrayList<>();

    private void refuse(String name, Call call, String due) {
        calls.add(new Refused(name, call, due));
    }

    private static ClassifyRules made(int how) {
        return how == NEW ? new ClassifyRules() : how == HALF_FULL ? halfFull() : full();
    }

    /** Codes 1 .. 5: 4 is found by its share; answers to 0, 2 and 4; one precedent may hold. */
    private static ClassifyRules halfFull() {
        ClassifyRules x = new ClassifyRules();
        for (int number = 1; number <= 5; number++) {
            x.code(number, number < 3 ? 40 : 50);
        }
        x.share(4, 1, 2);
        x.rule(0, 1, 1, true);
        x.rule(0, 1, 3, true);
        x.rule(0, 1, 4, true);
        x.rule(1, 0, 3, false);
        x.rule(2, 2, 1, false);
        x.rule(3, 0, 4, true);
        x.precedent(77, 1, 0, NONE, 0, 60);
        x.precedent(78, 0, 1, 3, 0, 50);
        x.day(50);
        x.answer(4, 3);
        x.answer(0, 1);
        x.answer(2, 2);
        return x;
    }

    /** 12 codes, 60 rules, 20 precedents, five answers. */
    private static ClassifyRules full() {
        ClassifyRules x = withSixtyRules();
        x.share(7, 1, 3);
        for (int n = 0; n < 20; n++) {
            x.precedent(70 + n % 2, n % 5, n % 4, (n + 1) % 5, (n + 1) % 4, 50 + n);
        }
        x.day(50);
        for (int q = 4; q >= 0; q--) {
            x.answer(q, q % 4);
        }
        return x;
    }

    private static void look(ClassifyRules x, StringBuilder seen) {
        for (int what = 0; what <= 14; what++) {
            seen.append(x.count(what)).append(' ');
        }
        for (int i = 0; i <= 12; i++) {
            seen.append(x.left(i)).append(' ');
        }
        for (int number = 1; number <= 12; number++) {
            int asked = number;
            seen.append(Checks.outcome(() -> x.explain(asked))).append(' ');
        }
        seen.append(x.question()).append(' ').append(x.needed()).append(' ').append(x.found()).append(' ')
                .append(x.why()).append(' ').append(x.emptied()).append(' ').append(x.contradicts()).append('\n');
    }

    /** All that shows now and after more calls: with the full object some 300 calls in all. */
    private static String seenFrom(ClassifyRules x) {
        StringBuilder seen = new StringBuilder();
        look(x, seen);
        x.answer(1, 0);
        x.answer(3, 0);
        look(x, seen);
        for (int q = 0; q <= 4; q++) {
            x.answer(q, NONE);
        }
        look(x, seen);
        x.day(51);
        seen.append(Checks.outcome(() -> x.code(6, 50))).append(' ');
        seen.append(Checks.outcome(() -> x.rule(4, 0, 6, true))).append(' ');
        seen.append(Checks.outcome(() -> x.precedent(79, 4, 0, NONE, 0, 90))).append(' ');
        x.answer(4, 0);
        look(x, seen);
        return seen.toString();
    }

    private void compare(int how) {
        String untouched = seenFrom(made(how));
        for (Refused refused : calls) {
            ClassifyRules x = made(how);
            same(refused.name, Checks.outcome(() -> refused.call.on(x)), refused.due);
            same("all that is seen after " + refused.name, seenFrom(x), untouched);
        }
        calls.clear();
    }

    private void wrongCodes() {
        for (int number : NO_NUMBER) {
            refuse("code " + number, x -> x.code(number, 100), ARGUMENT);
            refuse("rule for code " + number, x -> x.rule(1, 0, number, true), ARGUMENT);
            refuse("share of code " + number, x -> x.share(number, 1, 1) ? 1 : 0, FALSE);
            refuse("explain " + number, x -> x.explain(number), ARGUMENT);
            refuse("precedent of code " + number, x -> x.precedent(number, 0, 1, NONE, 0, 90), ARGUMENT);
        }
        for (int specific : NO_SPECIFIC) {
            refuse("specific " + specific, x -> x.code(60, specific), ARGUMENT);
            refuse("specific " + specific + " of 1", x -> x.code(1, specific), ARGUMENT);
        }
        refuse("rule for no code", x -> x.rule(1, 0, 60, true), ARGUMENT);
        refuse("share of no code", x -> x.share(60, 1, 1) ? 1 : 0, FALSE);
        refuse("explain no code", x -> x.explain(60), ARGUMENT);
    }

    private void wrongQuestions() {
        for (int q : NO_QUESTION) {
            refuse("rule for question " + q, x -> x.rule(q, 0, 1, true), ARGUMENT);
            refuse("answer to " + q, x -> x.answer(q, 0), ARGUMENT);
            refuse("answer to " + q + " taken back", x -> x.answer(q, NONE), ARGUMENT);
            refuse("precedent with first " + q, x -> x.precedent(80, q, 1, 0, 1, 90), ARGUMENT);
            if (q != NONE) {
                refuse("precedent with second " + q, x -> x.precedent(80, 0, 1, q, 1, 90), ARGUMENT);
            }
        }
        refuse("precedent with one question", x -> x.precedent(80, 0, 1, 0, 1, 90), ARGUMENT);
    }

    private void wrongAnswers() {
        for (int a : NO_ANSWER) {
            refuse("rule for answer " + a, x -> x.rule(1, a, 1, false), ARGUMENT);
            refuse("precedent with answer " + a, x -> x.precedent(80, 0, a, NONE, 0, 90), ARGUMENT);
            refuse("precedent with other " + a, x -> x.precedent(80, 0, 1, 2, a, 90), ARGUMENT);
            if (a != NONE) {
                refuse("answer " + a + " to a question that is answered", x -> x.answer(0, a), ARGUMENT);
                refuse("answer " + a + " to the last question", x -> x.answer(4, a), ARGUMENT);
            }
        }
    }

    private void wrongDays() {
        for (int day : NO_DAY) {
            refuse("day " + day, x -> x.day(day) ? 1 : 0, FALSE);
            refuse("precedent until " + day, x -> x.precedent(80, 0, 1, NONE, 0, day), ARGUMENT);
        }
    }

    private void wrongShares() {
        for (int number = 1; number <= 5; number++) {
            int of = number;
            for (int up : new int[] {LOW, -1, 1001, HIGH}) {
                refuse("up " + up + " of " + of, x -> x.share(of, up, 1) ? 1 : 0, FALSE);
            }
            for (int down : new int[] {LOW, -1, 0, 1001, HIGH}) {
                refuse("down " + down + " of " + of, x -> x.share(of, 1000, down) ? 1 : 0, FALSE);
            }
        }
    }

    private void back() {
        for (int day : new int[] {0, 1, 49}) {
            refuse("back to day " + day, x -> x.day(day) ? 1 : 0, FALSE);
        }
    }

    private void thereAlready() {
        for (int number = 1; number <= 5; number++) {
            int there = number;
            refuse("code " + there + " more specific", x -> x.code(there, 100), "0");
            refuse("code " + there + " less specific", x -> x.code(there, 0), "0");
        }
        refuse("a kept one is kept", x -> x.rule(0, 1, 4, true), "0");
        refuse("a kept one falls", x -> x.rule(0, 1, 4, false), "0");
        refuse("one that falls is kept", x -> x.rule(2, 2, 1, true), "0");
        refuse("one that falls falls", x -> x.rule(2, 2, 1, false), "0");
    }

    private void tooMany() {
        refuse("the 13th code", x -> x.code(60, 100), STATE);
        refuse("the 13th code, the greatest", x -> x.code(999999, 0), STATE);
        refuse("a code that is there, of 12", x -> x.code(3, 100), STATE);
        refuse("the 61st rule", x -> x.rule(4, 0, 12, true), STATE);
        refuse("the 61st rule, a fall", x -> x.rule(0, 1, 1, false), STATE);
        refuse("a rule that is there, of 60", x -> x.rule(0, 0, 1, false), STATE);
        refuse("the 21st precedent", x -> x.precedent(80, 0, 0, NONE, 0, 90), STATE);
        refuse("the 21st precedent with two", x -> x.precedent(80, 0, 0, 4, 0, 90), STATE);
    }

    private void wrongOnes() {
        wrongCodes();
        wrongQuestions();
        wrongAnswers();
        wrongDays();
        wrongShares();
    }

    private void ofNew() {
        // Without codes a share is of none, whatever it is.
        wrongOnes();
        refuse("share of no code yet", x -> x.share(1, 1, 1) ? 1 : 0, FALSE);
        refuse("rule for no code yet", x -> x.rule(0, 0, 1, true), ARGUMENT);
        refuse("explain no code yet", x -> x.explain(1), ARGUMENT);
        compare(NEW);
    }

    private void ofHalfFull() {
        wrongOnes();
        back();
        thereAlready();
        compare(HALF_FULL);
    }

    private void ofFull() {
        wrongOnes();
        back();
        tooMany();
        compare(FULL);
    }

    /** What only asks, or asks for what is not there, changes nothing either. */
    private void asking() {
        for (int how : new int[] {NEW, HALF_FULL, FULL}) {
            ClassifyRules x = made(how);
            for (int i : new int[] {LOW, -1, 0, 12, HIGH}) {
                x.left(i);
                x.count(i);
            }
            for (int n = 0; n < 2; n++) {
                x.question();
                x.needed();
                x.found();
                x.why();
                x.emptied();
                x.contradicts();
            }
            same("all that is seen after it was asked", seenFrom(x), seenFrom(made(how)));
        }
    }

    public static void main(String[] args) {
        UnchangedTest test = new UnchangedTest();
        test.says("What throws or is refused changes nothing: a new object", test::ofNew);
        test.says("What throws or is refused changes nothing: half full", test::ofHalfFull);
        test.says("What throws or is refused changes nothing: full", test::ofFull);
        test.says("What asks changes nothing", test::asking);
        test.end();
    }
}
