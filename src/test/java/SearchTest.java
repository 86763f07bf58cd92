import java.util.Random;

/**
 * Promises 6 and 7 where most is to be searched: many rules and few answers, drawn by a
 * seed; the next question and how many are needed are those of the plain model.
 */
public final class SearchTest {
    private static final int STATES = 120;

    private final Checks checks = new Checks();
    private final int[] neededSeen = new int[6];

    private static void fill(Random random, ClassifyRules x, PlainModel model) {
        int codes = 2 + random.nextInt(11);
        for (int code = 1; code <= codes; code++) {
            x.code(code, 0);
            model.code(code, 0);
        }
        int rules = 1 + random.nextInt(60);
        int keepsInTen = random.nextInt(11);
        // With fewer answers in use the others leave every code, and more questions are needed.
        int inUse = 1 + random.nextInt(4);
        for (int n = 0; n < rules; n++) {
            int question = random.nextInt(5);
            int answer = random.nextInt(inUse);
            int code = 1 + random.nextInt(codes);
            boolean keeps = random.nextInt(10) < keepsInTen;
            x.rule(question, answer, code, keeps);
            model.rule(question, answer, code, keeps);
        }
    }

    private void look(int seed) {
        Random random = new Random(seed);
        ClassifyRules x = new ClassifyRules();
        PlainModel model = new PlainModel();
        fill(random, x, model);
        for (int given = 0; given < 3; given++) {
            int needed = model.needed();
            neededSeen[needed]++;
            String at = "seed " + seed + ", answers given " + given + ": ";
            checks.same(at + "needed()", x.needed(), needed);
            checks.same(at + "question()", x.question(), model.question());
            int answer = random.nextInt(4);
            checks.same(at + "answer()", x.answer(given, answer), model.answer(given, answer));
        }
    }

    public static void main(String[] args) {
        SearchTest test = new SearchTest();
        for (int seed = 1; seed <= STATES; seed++) {
            test.look(seed);
        }
        // A search that is never deep would show nothing.
        for (int needed = 0; needed <= 5; needed++) {
            test.checks.same("there are states that need " + needed, test.neededSeen[needed] >= 10, true);
        }
        test.checks.end();
    }
}
