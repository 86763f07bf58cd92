/** README.md shows this run; its answers are the ones told there. */
public final class ReadmeTest extends Looks {

    private void use() {
        ClassifyRules x = new ClassifyRules();
        same("code(100, 2)", x.code(100, 2), 1);
        same("code(200, 1)", x.code(200, 1), 2);
        same("rule(0, 0, 100, true)", x.rule(0, 0, 100, true), 1);
        same("rule(0, 1, 100, false)", x.rule(0, 1, 100, false), 2);
        next(x, 0, 1);
        code(x, 100, 3);
        same("answer(0, 1)", x.answer(0, 1), 1);
        left(x, 200);
        code(x, 200, 2);
        same("explain(100)", x.explain(100), 1);
        same("precedent(777, ..)", x.precedent(777, 0, 1, NONE, 0, 30), 1);
        code(x, 777, 1);
        same("day(31)", x.day(31), true);
        code(x, 200, 2);
    }

    public static void main(String[] args) {
        ReadmeTest test = new ReadmeTest();
        test.says("README.md, 'Use'", test::use);
        test.end();
    }
}
