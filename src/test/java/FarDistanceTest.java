/** Distances beyond an int, and beyond a long, of either rank: there the answer is the greatest long. */
public final class FarDistanceTest {
    // Found by a search: almost all of these are told wrongly in each of twenty rounds, so that a
    // weight rises to 3e13. The first number is the class. Each feature is given to the teller twice,
    // which leaves every weight as it was and doubles the distances.
    private static final int[][] CLASS_AND_FEATURES = {
        {0, 0, 3, 2}, {2, 16, 30, 0}, {0, 9, 10, 0}, {0, 77, 45, 4}, {0, 163, 110, 20},
        {1, 231, 112, 10}, {0, 155, 111, 19}, {1, 190, 252, 8}, {1, 21, 117, 10}, {0, 85, 57, 7},
        {0, 241, 70, 29}, {2, 124, 91, 23}, {1, 82, 203, 9}, {1, 230, 114, 10}, {0, 170, 108, 19},
        {0, 43, 43, 6}, {0, 3, 30, 3}, {0, 253, 99, 21}, {1, 250, 117, 10}, {0, 21, 52, 3},
        {1, 216, 227, 10}, {1, 183, 115, 10}, {0, 0, 110, 20}, {0, 13, 250, 0}, {0, 201, 106, 19},
        {1, 40, 114, 9}, {0, 185, 107, 19}, {0, 179, 111, 18}, {0, 49, 29, 1}, {1, 250, 119, 10},
        {1, 171, 112, 10}, {0, 50, 255, 1}, {1, 39, 114, 10}, {0, 161, 106, 19}, {1, 61, 117, 10},
        {0, 194, 111, 19}, {1, 46, 115, 10}, {0, 154, 25, 0}, {0, 40, 13, 6}, {1, 90, 120, 10}
    };
    private static final int FEATURES = 6;

    private static final Check CHECK = new Check();

    // Two classes with a group of features each. Of a class's twenty examples eighteen lie midway
    // between the two means in its own group, and in the other's one step beyond the middle, but for
    // one feature that lies on the other's mean. That makes each of them a little nearer to the other
    // class, whose weights in its group then rise; as both classes take turns, both rise together, to
    // 2e15. The last two hold the means where they must be for the middle to be exact.
    private static final int GROUP = 6;
    private static final int TOLD_WRONGLY = 18;
    private static final int OF_EACH = 20;

    public static void main(String[] args) {
        onlyTheSecondIsBeyondALong();
        bothAreBeyondALong();
        CHECK.end();
    }

    private static void onlyTheSecondIsBeyondALong() {
        SignTeller x = new SignTeller(FEATURES - 1);
        PlainModel model = new PlainModel(FEATURES - 1);
        giveExamples(x, model);
        CHECK.same("make(20)", x.make(20), model.make(20));
        weightsAreAlike(x, model);
        distancesAreAlike("the blank sign", x, model);
        CHECK.same("within a long", x.distance(1) > Integer.MAX_VALUE && x.distance(1) < Long.MAX_VALUE ? 1 : 0, 1);

        x.sign(2, 255);
        model.sign(2, 255);
        x.sign(5, 255);
        model.sign(5, 255);
        distancesAreAlike("the far sign", x, model);
        CHECK.same("beyond a long", x.distance(1), Long.MAX_VALUE);
        CHECK.same("the nearest is within a long", x.distance(0) < Long.MAX_VALUE ? 1 : 0, 1);
        CHECK.same("tell beyond a long", x.tell(1), model.tell(1));
        x.margin(100000);
        CHECK.same("a far lead is above every margin", x.tell(0), model.tell(0));
    }

    private static void bothAreBeyondALong() {
        SignTeller x = new SignTeller(2 * GROUP - 1);
        PlainModel model = new PlainModel(2 * GROUP - 1);
        for (int i = 0; i < OF_EACH; i++) {
            giveTurn(i, 0, x, model);
            giveTurn(i, 1, x, model);
        }
        CHECK.same("make(20) in turns", x.make(20), model.make(20));
        // The blank sign lies as far from the one class as from the other.
        CHECK.same("both far: distance(0) of the blank sign", x.distance(0), Long.MAX_VALUE);
        CHECK.same("both far: distance(1) of the blank sign", x.distance(1), Long.MAX_VALUE);
        x.sign(0, 255);
        model.sign(0, 255);
        CHECK.same("both far: distance(0)", x.distance(0), Long.MAX_VALUE);
        CHECK.same("both far: distance(1)", x.distance(1), Long.MAX_VALUE);
        distancesAreAlike("the sign far from both", x, model);
        // The lead is that of the distances, not of the answers, which are the same here.
        x.margin(100000);
        CHECK.same("both far: tell(0)", x.tell(0), 1);
        CHECK.same("both far: tell(1)", x.tell(1), 0);
        CHECK.sameReal("both far: weight(0, 0)", x.weight(0, 0), model.weight(0, 0));
        CHECK.sameReal("both far: weight(1, 0)", x.weight(1, 0), model.weight(1, 0));
    }

    // A zero is not given, for all features are 0 at first, and the test comes near the object's 512 calls.
    private static void giveTurn(int i, int cls, SignTeller x, PlainModel model) {
        int e = x.example(cls);
        CHECK.same("example", e, model.example(cls));
        for (int f = 0; f < 2 * GROUP; f++) {
            int v = valueInTurn(i, cls, f);
            if (v != 0) {
                x.feature(e, f, v);
                model.feature(e, f, v);
            }
        }
    }

    private static int valueInTurn(int i, int cls, int f) {
        boolean own = f / GROUP == cls;
        if (i >= TOLD_WRONGLY) {
            return own ? 0 : 250 + i - TOLD_WRONGLY;
        }
        if (own) {
            return 120;
        }
        return f % GROUP == i % GROUP ? 108 : 121;
    }

    private static void giveExamples(SignTeller x, PlainModel model) {
        for (int[] row : CLASS_AND_FEATURES) {
            int e = x.example(row[0]);
            CHECK.same("example", e, model.example(row[0]));
            for (int f = 0; f < FEATURES; f++) {
                int v = row[1 + f % 3];
                x.feature(e, f, v);
                model.feature(e, f, v);
            }
        }
    }

    private static void weightsAreAlike(SignTeller x, PlainModel model) {
        for (int cls = 0; cls < 3; cls++) {
            for (int f = 0; f < FEATURES; f++) {
                CHECK.sameReal("weight(" + cls + ", " + f + ")", x.weight(cls, f), model.weight(cls, f));
            }
        }
    }

    private static void distancesAreAlike(String sign, SignTeller x, PlainModel model) {
        CHECK.same("distance(0) of " + sign, x.distance(0), model.distance(0));
        CHECK.same("distance(1) of " + sign, x.distance(1), model.distance(1));
    }
}
