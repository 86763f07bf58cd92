import java.util.Arrays;
import java.util.Random;

/** Long runs of calls drawn by a seed: the class answers each as the plain model does. */
public final class ModelTest {
    private static final int RUNS = 400;
    private static final int CALLS = 512;
    private static final int[] ODD = {Integer.MIN_VALUE, -2, -1, 4, 5, 100001, 1000000, Integer.MAX_VALUE};
    private static final String[] NAMES = {"code", "share", "rule", "answer", "question", "needed", "found", "why",
        "left", "emptied", "explain", "precedent", "contradicts", "day", "count"};

    private final Checks checks = new Checks();
    private final Random random;
    private final ClassifyRules x = new ClassifyRules();
    private final PlainModel model = new PlainModel();
    private final int seed;
    private final int highestCode;
    private final int keepsInTen;
    private final int oddInHundred;

    private ModelTest(int seed) {
        this.seed = seed;
        random = new Random(seed);
        highestCode = 2 + random.nextInt(14);
        keepsInTen = random.nextInt(11);
        oddInHundred = random.nextInt(8);
    }

    /** One of least .. most, or now and then one far from them. */
    private int some(int least, int most) {
        if (random.nextInt(100) < oddInHundred) {
            return ODD[random.nextInt(ODD.length)];
        }
        return least + random.nextInt(most - least + 1);
    }

    private int pickCall(int done) {
        // Rules and codes early, so that what is asked later stands on something.
        if (done < 120 && random.nextInt(10) < 6) {
            return random.nextInt(3);
        }
        return random.nextInt(3) == 0 ? 3 : random.nextInt(NAMES.length);
    }

    private int[] arguments(int call) {
        return switch (call) {
            case 0 -> new int[] {some(1, highestCode), some(0, random.nextInt(3))};
            case 1 -> new int[] {some(1, highestCode), some(0, 6), some(1, 6)};
            case 2 -> new int[] {some(0, 4), some(0, 3), some(1, highestCode), random.nextInt(10) < keepsInTen ? 1 : 0};
            case 3 -> new int[] {some(0, 4), some(-1, 3)};
            case 8 -> new int[] {some(0, 4)};
            case 10 -> new int[] {some(1, highestCode)};
            case 11 -> new int[] {some(1, 3), some(0, 4), some(0, 3), some(-1, 4), some(0, 3), some(0, 300)};
            case 13 -> new int[] {model.count(6) + some(-1, 20)};
            case 14 -> new int[] {some(0, 15)};
            default -> new int[0];
        };
    }

    private int asked(int call, int[] a) {
        return switch (call) {
            case 0 -> x.code(a[0], a[1]);
            case 1 -> x.share(a[0], a[1], a[2]) ? 1 : 0;
            case 2 -> x.rule(a[0], a[1], a[2], a[3] == 1);
            case 3 -> x.answer(a[0], a[1]);
            case 4 -> x.question();
            case 5 -> x.needed();
            case 6 -> x.found();
            case 7 -> x.why();
            case 8 -> x.left(a[0]);
            case 9 -> x.emptied();
            case 10 -> x.explain(a[0]);
            case 11 -> x.precedent(a[0], a[1], a[2], a[3], a[4], a[5]);
            case 12 -> x.contradicts() ? 1 : 0;
            case 13 -> x.day(a[0]) ? 1 : 0;
            default -> x.count(a[0]);
        };
    }

    private int due(int call, int[] a) {
        return switch (call) {
            case 0 -> model.code(a[0], a[1]);
            case 1 -> model.share(a[0], a[1], a[2]);
            case 2 -> model.rule(a[0], a[1], a[2], a[3] == 1);
            case 3 -> model.answer(a[0], a[1]);
            case 4 -> model.question();
            case 5 -> model.needed();
            case 6 -> model.found();
            case 7 -> model.why();
            case 8 -> model.left(a[0]);
            case 9 -> model.emptied();
            case 10 -> model.explain(a[0]);
            case 11 -> model.precedent(a[0], a[1], a[2], a[3], a[4], a[5]);
            case 12 -> model.contradicts();
            case 13 -> model.day(a[0]);
            default -> model.count(a[0]);
        };
    }

    private boolean runIsRight() {
        for (int done = 0; done < CALLS && !checks.anyWrong(); done++) {
            int call = pickCall(done);
            int[] a = arguments(call);
            String name = "seed " + seed + ", call " + done + ": " + NAMES[call] + Arrays.toString(a);
            checks.same(name, Checks.outcome(() -> asked(call, a)), Checks.outcome(() -> due(call, a)));
        }
        return !checks.anyWrong();
    }

    public static void main(String[] args) {
        int wrong = 0;
        for (int seed = 1; seed <= RUNS; seed++) {
            if (!new ModelTest(seed).runIsRight()) {
                wrong++;
            }
        }
        System.out.println(RUNS + " runs of " + CALLS + " calls, " + wrong + " not as due");
        if (wrong > 0) {
            System.exit(1);
        }
    }
}
