import java.util.ArrayList;
import java.util.HashMap;
import java.util.List;
import java.util.Map;
import java.util.TreeMap;

/**
 * The document's terms once more, word by word and with the Java library, so that the class can be
 * held against something that was not written the same way. It refuses nothing but what it must.
 */
final class PlainModel {
    private record Example(int cls, double[] values) { }

    private record Told(int cls, double distance) { }

    private final int features;
    private final List<Example> examples = new ArrayList<>();
    private final double[] sign;
    private int margin = 0;
    private TreeMap<Integer, double[]> means = new TreeMap<>();
    private TreeMap<Integer, double[]> weights = new TreeMap<>();
    private final Map<List<Integer>, Integer> confused = new HashMap<>();

    PlainModel(int features) {
        this.features = Math.floorMod(features, 16) + 1;
        this.sign = new double[this.features];
    }

    int features() {
        return features;
    }

    int count() {
        return examples.size();
    }

    private static boolean isClass(int cls) {
        return 0 <= cls && cls <= 15;
    }

    private boolean isFeature(int f) {
        return 0 <= f && f <= features - 1;
    }

    int example(int cls) {
        if (!isClass(cls)) {
            return -12;
        }
        if (examples.size() == 40) {
            return -14;
        }
        examples.add(new Example(cls, new double[features]));
        return examples.size() - 1;
    }

    /** Whether there are such an example and feature. */
    boolean feature(int example, int f, int v) {
        if (example < 0 || example >= examples.size() || !isFeature(f)) {
            return false;
        }
        examples.get(example).values()[f] = Byte.toUnsignedInt((byte) v);
        return true;
    }

    /** 0 in place of the exception. */
    int make(int rounds) {
        if (rounds < 0 || rounds > 20) {
            return -12;
        }
        if (examples.isEmpty()) {
            return 0;
        }
        TreeMap<Integer, List<double[]>> ofClass = new TreeMap<>();
        for (Example e : examples) {
            ofClass.computeIfAbsent(e.cls(), c -> new ArrayList<>()).add(e.values());
        }
        means = new TreeMap<>();
        weights = new TreeMap<>();
        ofClass.forEach((cls, rows) -> {
            double[] mean = new double[features];
            double[] weight = new double[features];
            for (int f = 0; f < features; f++) {
                long sum = 0;
                for (double[] row : rows) {
                    sum += (long) row[f];
                }
                mean[f] = (double) sum / (double) rows.size();
                weight[f] = 1.0;
            }
            means.put(cls, mean);
            weights.put(cls, weight);
        });
        for (int r = 1; r <= rounds; r++) {
            examples.forEach(this::learn);
        }
        confused.clear();
        for (Example e : examples) {
            confused.merge(List.of(e.cls(), nearest(e.values()).get(0).cls()), 1, Integer::sum);
        }
        return 1;
    }

    private void learn(Example e) {
        int n = nearest(e.values()).get(0).cls();
        if (n == e.cls()) {
            return;
        }
        for (int f = 0; f < features; f++) {
            double a = Math.abs(e.values()[f] - means.get(e.cls())[f]);
            double b = Math.abs(e.values()[f] - means.get(n)[f]);
            if (a > b) {
                weights.get(e.cls())[f] *= 0.875;
            }
            if (b > a) {
                weights.get(n)[f] *= 1.125;
            }
        }
    }

    /** All classes that were made, the nearest first. */
    private List<Told> nearest(double[] values) {
        List<Told> all = new ArrayList<>();
        means.forEach((cls, mean) -> {
            double sum = 0.0;
            for (int f = 0; f < features; f++) {
                sum += weights.get(cls)[f] * Math.abs(values[f] - mean[f]);
            }
            all.add(new Told(cls, sum));
        });
        // The sort is stable and the classes come in their order, so the lesser one of two alike is first.
        all.sort((x, y) -> Double.compare(x.distance(), y.distance()));
        return all;
    }

    boolean sign(int f, int v) {
        if (!isFeature(f)) {
            return false;
        }
        sign[f] = Byte.toUnsignedInt((byte) v);
        return true;
    }

    int tell(int rank) {
        if (rank != 0 && rank != 1) {
            return -12;
        }
        if (means.isEmpty()) {
            return -13;
        }
        boolean blank = true;
        for (double v : sign) {
            blank &= v == 0.0;
        }
        if (blank) {
            return -3;
        }
        List<Told> told = nearest(sign);
        if (told.size() == 1) {
            return rank == 0 ? told.get(0).cls() : -1;
        }
        if (told.get(1).distance() - told.get(0).distance() < margin) {
            return -2;
        }
        return told.get(rank).cls();
    }

    long distance(int rank) {
        if (rank != 0 && rank != 1) {
            return -12;
        }
        if (means.isEmpty()) {
            return -13;
        }
        List<Told> told = nearest(sign);
        if (told.size() <= rank) {
            return -1;
        }
        double thousandfold = told.get(rank).distance() * 1000.0;
        return thousandfold >= 0x1p63 ? Long.MAX_VALUE : (long) thousandfold;
    }

    /** null in place of the exception. */
    Double weight(int cls, int f) {
        if (!isClass(cls) || !isFeature(f)) {
            return null;
        }
        return weights.containsKey(cls) ? weights.get(cls)[f] : 0.0;
    }

    int confused(int c, int n) {
        return isClass(c) && isClass(n) ? confused.getOrDefault(List.of(c, n), 0) : -12;
    }

    int margin(int m) {
        if (m < 0 || m > 100000) {
            return -12;
        }
        int before = margin;
        margin = m;
        return before;
    }

    int clear() {
        int before = examples.size();
        examples.clear();
        return before;
    }
}
