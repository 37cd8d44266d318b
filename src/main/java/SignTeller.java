/**
 * Tells signs by their features: the class whose examples' mean lies nearest, under weights that
 * were made by rounds over the examples.
 */
public final class SignTeller {
    public static final int NONE = -1, REJECTED = -2, BLANK = -3;
    public static final int OUTSIDE = -12, STATE = -13, ROOM = -14;

    private static final int CLASSES = 16;
    private static final int MOST_EXAMPLES = 40;
    private static final int MOST_ROUNDS = 20;
    private static final int HIGHEST_MARGIN = 100000;

    private final int featureCount;

    private final int[] exampleClass;
    private final int[][] exampleValues;
    private int exampleCount;

    private final int[] signValues;
    private int leastLead;

    // What the latest making made. It has its own count of each class's examples, for the
    // examples themselves may change or go while it stays.
    private boolean made;
    private final int[] members;
    private final double[][] means;
    private final double[][] weights;
    private final int[][] confusions;

    public SignTeller(int features) {
        featureCount = 1 + (features & 15);
        exampleClass = new int[MOST_EXAMPLES];
        exampleValues = new int[MOST_EXAMPLES][featureCount];
        signValues = new int[featureCount];
        members = new int[CLASSES];
        means = new double[CLASSES][featureCount];
        weights = new double[CLASSES][featureCount];
        confusions = new int[CLASSES][CLASSES];
    }

    public int example(int cls) {
        if (!isClass(cls)) {
            return OUTSIDE;
        }
        if (exampleCount >= MOST_EXAMPLES) {
            return ROOM;
        }
        int number = exampleCount;
        exampleClass[number] = cls;
        // The row may still hold the values of an example that went by clear().
        for (int f = 0; f < featureCount; f++) {
            exampleValues[number][f] = 0;
        }
        exampleCount = number + 1;
        return number;
    }

    public void feature(int example, int f, int v) throws ArrayIndexOutOfBoundsException {
        if (example < 0 || example >= exampleCount || !isFeature(f)) {
            throw new ArrayIndexOutOfBoundsException("no such example or feature");
        }
        exampleValues[example][f] = lowestByte(v);
    }

    public int make(int rounds) throws ArithmeticException {
        if (rounds < 0 || rounds > MOST_ROUNDS) {
            return OUTSIDE;
        }
        if (exampleCount == 0) {
            throw new ArithmeticException("no examples");
        }
        makeMeans();
        makeFirstWeights();
        for (int r = 0; r < rounds; r++) {
            goRound();
        }
        countConfusions();
        made = true;
        return 1;
    }

    public void sign(int f, int v) throws ArrayIndexOutOfBoundsException {
        if (!isFeature(f)) {
            throw new ArrayIndexOutOfBoundsException("no such feature");
        }
        signValues[f] = lowestByte(v);
    }

    public int tell(int rank) {
        if (!isRank(rank)) {
            return OUTSIDE;
        }
        if (!made) {
            return STATE;
        }
        if (isSignBlank()) {
            return BLANK;
        }
        int first = nearestClass(signValues, NONE);
        int second = nearestClass(signValues, first);
        if (isTooClose(first, second)) {
            return REJECTED;
        }
        return rank == 0 ? first : second;
    }

    public long distance(int rank) {
        if (!isRank(rank)) {
            return OUTSIDE;
        }
        if (!made) {
            return STATE;
        }
        int cls = nearestClass(signValues, NONE);
        if (rank == 1) {
            cls = nearestClass(signValues, cls);
        }
        if (!isClass(cls)) {
            return NONE;
        }
        // The cast itself answers the greatest long for what lies beyond it.
        return (long) (distanceTo(cls, signValues) * 1000.0);
    }

    public double weight(int cls, int f) throws ArrayIndexOutOfBoundsException {
        if (!isClass(cls) || !isFeature(f)) {
            throw new ArrayIndexOutOfBoundsException("no such class or feature");
        }
        return weights[cls][f];
    }

    public int confused(int c, int n) {
        if (!isClass(c) || !isClass(n)) {
            return OUTSIDE;
        }
        return confusions[c][n];
    }

    public int margin(int m) {
        if (m < 0 || m > HIGHEST_MARGIN) {
            return OUTSIDE;
        }
        int before = leastLead;
        leastLead = m;
        return before;
    }

    public int clear() {
        int before = exampleCount;
        exampleCount = 0;
        return before;
    }

    private static boolean isClass(int cls) {
        return cls >= 0 && cls < CLASSES;
    }

    private static boolean isRank(int rank) {
        return rank == 0 || rank == 1;
    }

    private boolean isFeature(int f) {
        return f >= 0 && f < featureCount;
    }

    private static int lowestByte(int v) {
        return v & 255;
    }

    private static double size(double x) {
        return x < 0.0 ? -x : x;
    }

    private void makeMeans() {
        for (int c = 0; c < CLASSES; c++) {
            members[c] = 0;
            for (int f = 0; f < featureCount; f++) {
                means[c][f] = 0.0;
            }
        }
        // Sums of at most 40 bytes are exact in a double, so the rows of the means can hold them.
        for (int e = 0; e < exampleCount; e++) {
            int c = exampleClass[e];
            members[c]++;
            for (int f = 0; f < featureCount; f++) {
                means[c][f] += (double) exampleValues[e][f];
            }
        }
        for (int c = 0; c < CLASSES; c++) {
            if (members[c] > 0) {
                divideMeans(c);
            }
        }
    }

    private void divideMeans(int c) {
        double number = (double) members[c];
        for (int f = 0; f < featureCount; f++) {
            means[c][f] = means[c][f] / number;
        }
    }

    private void makeFirstWeights() {
        for (int c = 0; c < CLASSES; c++) {
            double first = members[c] > 0 ? 1.0 : 0.0;
            for (int f = 0; f < featureCount; f++) {
                weights[c][f] = first;
            }
        }
    }

    private void goRound() {
        for (int e = 0; e < exampleCount; e++) {
            int c = exampleClass[e];
            int n = nearestClass(exampleValues[e], NONE);
            if (isClass(n) && n != c) {
                shiftWeights(exampleValues[e], c, n);
            }
        }
    }

    private void shiftWeights(int[] values, int c, int n) {
        for (int f = 0; f < featureCount; f++) {
            double a = size((double) values[f] - means[c][f]);
            double b = size((double) values[f] - means[n][f]);
            if (a > b) {
                weights[c][f] = weights[c][f] * 0.875;
            } else if (b > a) {
                weights[n][f] = weights[n][f] * 1.125;
            }
        }
    }

    private void countConfusions() {
        for (int c = 0; c < CLASSES; c++) {
            for (int n = 0; n < CLASSES; n++) {
                confusions[c][n] = 0;
            }
        }
        for (int e = 0; e < exampleCount; e++) {
            int n = nearestClass(exampleValues[e], NONE);
            if (isClass(n)) {
                confusions[exampleClass[e]][n]++;
            }
        }
    }

    private double distanceTo(int c, int[] values) {
        double sum = 0.0;
        for (int f = 0; f < featureCount; f++) {
            sum = sum + weights[c][f] * size((double) values[f] - means[c][f]);
        }
        return sum;
    }

    /** The nearest of the classes that were made, without leftOut; NONE if there is none. */
    private int nearestClass(int[] values, int leftOut) {
        int nearest = NONE;
        double least = 0.0;
        for (int c = 0; c < CLASSES; c++) {
            if (members[c] == 0 || c == leftOut) {
                continue;
            }
            double distance = distanceTo(c, values);
            if (nearest == NONE || distance < least) {
                nearest = c;
                least = distance;
            }
        }
        return nearest;
    }

    private boolean isSignBlank() {
        for (int f = 0; f < featureCount; f++) {
            if (signValues[f] != 0) {
                return false;
            }
        }
        return true;
    }

    private boolean isTooClose(int first, int second) {
        if (!isClass(first) || !isClass(second)) {
            return false;
        }
        double lead = distanceTo(second, signValues) - distanceTo(first, signValues);
        return lead < (double) leastLead;
    }
}
