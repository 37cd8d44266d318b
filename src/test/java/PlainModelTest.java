import java.util.Random;

/** Long mixed runs of calls, each answer held against the plain model's. The seeds are fixed. */
public final class PlainModelTest {
    private static final int RUNS = 1500;
    private static final int CALLS = 512;
    private static final int[] ODD = {-1, -2, 16, 17, 40, 41, 256, Integer.MIN_VALUE, Integer.MAX_VALUE};

    private static final Check CHECK = new Check();

    private final Random random;
    private final SignTeller x;
    private final PlainModel model;
    private final String run;
    // A run keeps to few classes or takes many, to narrow or wide values, and clears now and then or hardly.
    private final int classes;
    private final int values;
    private final int clears;

    private PlainModelTest(int seed) {
        random = new Random(seed);
        int features = random.nextInt(4) == 0 ? random.nextInt() : random.nextInt(4);
        x = new SignTeller(features);
        model = new PlainModel(features);
        run = "run " + seed + ", new SignTeller(" + features + "), ";
        classes = 1 + random.nextInt(random.nextBoolean() ? 3 : 16);
        values = random.nextBoolean() ? 256 : 1 + random.nextInt(8);
        clears = random.nextBoolean() ? 1 : 0;
    }

    public static void main(String[] args) {
        for (int seed = 0; seed < RUNS; seed++) {
            PlainModelTest test = new PlainModelTest(seed);
            for (int call = 1; call <= CALLS; call++) {
                test.callOne("call " + call + ": ");
            }
        }
        CHECK.end();
    }

    private void callOne(String call) {
        int kind = random.nextInt(100);
        if (kind < 10) {
            example(call);
        } else if (kind < 40) {
            feature(call);
        } else if (kind < 46) {
            make(call);
        } else if (kind < 60) {
            sign(call);
        } else if (kind < 98) {
            ask(call, kind);
        } else if (random.nextInt(4) < 1 + clears) {
            CHECK.same(run + call + "clear()", x.clear(), model.clear());
        }
    }

    private int numberBelow(int bound) {
        if (random.nextInt(40) == 0) {
            return ODD[random.nextInt(ODD.length)];
        }
        return random.nextInt(40) == 0 ? bound : random.nextInt(Math.max(1, bound));
    }

    private int value() {
        return random.nextInt(10) == 0 ? random.nextInt() : random.nextInt(values);
    }

    private void example(String call) {
        int cls = numberBelow(classes);
        CHECK.same(run + call + "example(" + cls + ")", x.example(cls), model.example(cls));
    }

    private void feature(String call) {
        int example = numberBelow(model.count());
        int f = numberBelow(model.features());
        int v = value();
        CHECK.quietIf(model.feature(example, f, v), run + call + "feature(" + example + ", " + f + ", " + v + ")",
                () -> x.feature(example, f, v));
    }

    private void sign(String call) {
        int f = numberBelow(model.features());
        int v = random.nextInt(4) == 0 ? 0 : value();
        CHECK.quietIf(model.sign(f, v), run + call + "sign(" + f + ", " + v + ")", () -> x.sign(f, v));
    }

    private void make(String call) {
        int rounds = numberBelow(21);
        String what = run + call + "make(" + rounds + ")";
        int due = model.make(rounds);
        if (due == 0) {
            CHECK.throwsArithmetic(what, () -> x.make(rounds));
        } else {
            CHECK.same(what, x.make(rounds), due);
        }
    }

    private void ask(String call, int kind) {
        int rank = numberBelow(2);
        if (kind < 72) {
            CHECK.same(run + call + "tell(" + rank + ")", x.tell(rank), model.tell(rank));
        } else if (kind < 80) {
            CHECK.same(run + call + "distance(" + rank + ")", x.distance(rank), model.distance(rank));
        } else if (kind < 88) {
            weight(call);
        } else if (kind < 94) {
            int c = numberBelow(classes);
            int n = numberBelow(classes);
            CHECK.same(run + call + "confused(" + c + ", " + n + ")", x.confused(c, n), model.confused(c, n));
        } else {
            int m = random.nextInt(4) == 0 ? numberBelow(100001) : numberBelow(values);
            CHECK.same(run + call + "margin(" + m + ")", x.margin(m), model.margin(m));
        }
    }

    private void weight(String call) {
        int cls = numberBelow(classes);
        int f = numberBelow(model.features());
        String what = run + call + "weight(" + cls + ", " + f + ")";
        Double due = model.weight(cls, f);
        if (due == null) {
            CHECK.throwsIndex(what, () -> x.weight(cls, f));
        } else {
            CHECK.sameReal(what, x.weight(cls, f), due);
        }
    }
}
