import java.util.ArrayList;
import java.util.List;

/**
 * Refused calls: which refusal is answered where several hold, and that a call that is refused, or
 * throws, changes nothing. For the latter two objects go the same way, one of them with the refused
 * call between; all that can be seen of them must then be the same.
 */
public final class RefusalsTest {
    private static final int LOWEST = Integer.MIN_VALUE;
    private static final int HIGHEST = Integer.MAX_VALUE;
    private static final int[] NO_CLASSES = {-1, 16, 17, 256, LOWEST, HIGHEST};
    private static final int[] NO_RANKS = {-1, 2, 3, 256, LOWEST, HIGHEST};
    private static final int[] NO_ROUNDS = {-1, 21, 22, 256, LOWEST, HIGHEST};
    private static final int[] NO_MARGINS = {-1, 100001, LOWEST, HIGHEST};
    private static final int[] NO_FEATURES = {-1, 2, 3, 15, 16, LOWEST, HIGHEST};
    private static final int INDEX = 101;
    private static final int ARITHMETIC = 102;

    private static final Check CHECK = new Check();

    private interface Asked {
        long of(SignTeller x);
    }

    private record Refused(String call, Asked asked, int due) { }

    private enum State {
        NEW, NOT_MADE, MADE, FULL, CLEARED;

        boolean hasExamples() {
            return this == NOT_MADE || this == MADE || this == FULL;
        }

        boolean isMade() {
            return this == MADE || this == FULL || this == CLEARED;
        }

        int examples() {
            return this == FULL ? 40 : hasExamples() ? 4 : 0;
        }
    }

    public static void main(String[] args) {
        outsideBeforeRoom();
        outsideBeforeStateOfTell();
        outsideBeforeStateOfDistance();
        outsideBeforeNoExamples();
        for (State state : State.values()) {
            for (Refused refused : refusedIn(state)) {
                changesNothing(state, refused);
            }
        }
        CHECK.end();
    }

    // "Of several the first one here: OUTSIDE, STATE, ROOM."
    private static void outsideBeforeRoom() {
        SignTeller x = inState(State.FULL);
        CHECK.same("example of a class, full", x.example(15), SignTeller.ROOM);
        for (int cls : NO_CLASSES) {
            CHECK.same("example(" + cls + "), full", x.example(cls), SignTeller.OUTSIDE);
        }
    }

    private static void outsideBeforeStateOfTell() {
        SignTeller x = new SignTeller(0);
        CHECK.same("tell(0), nothing made", x.tell(0), SignTeller.STATE);
        CHECK.same("tell(1), nothing made", x.tell(1), SignTeller.STATE);
        for (int rank : NO_RANKS) {
            CHECK.same("tell(" + rank + "), nothing made", x.tell(rank), SignTeller.OUTSIDE);
        }
    }

    private static void outsideBeforeStateOfDistance() {
        SignTeller x = new SignTeller(0);
        CHECK.same("distance(0), nothing made", x.distance(0), SignTeller.STATE);
        CHECK.same("distance(1), nothing made", x.distance(1), SignTeller.STATE);
        for (int rank : NO_RANKS) {
            CHECK.same("distance(" + rank + "), nothing made", x.distance(rank), SignTeller.OUTSIDE);
        }
    }

    // "OUTSIDE (rounds 0 .. 20), before ArithmeticException: there are no examples."
    private static void outsideBeforeNoExamples() {
        SignTeller x = new SignTeller(0);
        for (int rounds = 0; rounds <= 20; rounds++) {
            int asked = rounds;
            CHECK.throwsArithmetic("make(" + rounds + ") of no examples", () -> x.make(asked));
        }
        for (int rounds : NO_ROUNDS) {
            CHECK.same("make(" + rounds + ") of no examples", x.make(rounds), SignTeller.OUTSIDE);
        }
    }

    /** Two features; the classes 3 and 5, whose weights are shifted by the rounds. */
    private static SignTeller inState(State state) {
        SignTeller x = new SignTeller(1);
        for (int e = 0; e < examplesGiven(state); e++) {
            x.example(e % 2 == 0 ? 3 : 5);
            x.feature(e, 0, e % 4 == 2 ? 31 : 10 + 20 * (e % 2) + e);
            x.feature(e, 1, 20 + e % 3);
        }
        x.sign(0, 24);
        x.sign(1, 22);
        x.margin(1);
        if (state.isMade()) {
            x.make(2);
        }
        if (state == State.CLEARED) {
            x.clear();
        }
        return x;
    }

    private static int examplesGiven(State state) {
        return state == State.CLEARED ? 4 : state.examples();
    }

    private static List<Refused> refusedIn(State state) {
        List<Refused> all = new ArrayList<>();
        for (int cls : NO_CLASSES) {
            all.add(new Refused("example(" + cls + ")", x -> x.example(cls), SignTeller.OUTSIDE));
            all.add(new Refused("weight(" + cls + ", 0)", x -> (long) x.weight(cls, 0), INDEX));
            all.add(new Refused("confused(" + cls + ", 3)", x -> x.confused(cls, 3), SignTeller.OUTSIDE));
            all.add(new Refused("confused(3, " + cls + ")", x -> x.confused(3, cls), SignTeller.OUTSIDE));
        }
        for (int rank : NO_RANKS) {
            all.add(new Refused("tell(" + rank + ")", x -> x.tell(rank), SignTeller.OUTSIDE));
            all.add(new Refused("distance(" + rank + ")", x -> x.distance(rank), SignTeller.OUTSIDE));
        }
        for (int rounds : NO_ROUNDS) {
            all.add(new Refused("make(" + rounds + ")", x -> x.make(rounds), SignTeller.OUTSIDE));
        }
        for (int m : NO_MARGINS) {
            all.add(new Refused("margin(" + m + ")", x -> x.margin(m), SignTeller.OUTSIDE));
        }
        addNoFeatures(all);
        addNoExamples(all, state);
        addOfTheState(all, state);
        return all;
    }

    private static void addNoFeatures(List<Refused> all) {
        for (int f : NO_FEATURES) {
            all.add(new Refused("sign(" + f + ", 99)", x -> signed(x, f), INDEX));
            all.add(new Refused("weight(3, " + f + ")", x -> (long) x.weight(3, f), INDEX));
            all.add(new Refused("feature(0, " + f + ", 99)", x -> featured(x, 0, f), INDEX));
        }
    }

    private static void addNoExamples(List<Refused> all, State state) {
        int[] noExamples = {-1, state.examples(), state.examples() + 1, 40, 41, LOWEST, HIGHEST};
        for (int e : noExamples) {
            all.add(new Refused("feature(" + e + ", 0, 99)", x -> featured(x, e, 0), INDEX));
            all.add(new Refused("feature(" + e + ", 2, 99)", x -> featured(x, e, 2), INDEX));
        }
    }

    private static void addOfTheState(List<Refused> all, State state) {
        if (!state.isMade()) {
            for (int rank = 0; rank <= 1; rank++) {
                int asked = rank;
                all.add(new Refused("tell(" + rank + ")", x -> x.tell(asked), SignTeller.STATE));
                all.add(new Refused("distance(" + rank + ")", x -> x.distance(asked), SignTeller.STATE));
            }
        }
        if (!state.hasExamples()) {
            all.add(new Refused("make(0)", x -> x.make(0), ARITHMETIC));
            all.add(new Refused("make(20)", x -> x.make(20), ARITHMETIC));
        }
        if (state == State.FULL) {
            all.add(new Refused("example(0)", x -> x.example(0), SignTeller.ROOM));
            all.add(new Refused("example(15)", x -> x.example(15), SignTeller.ROOM));
        }
    }

    private static long featured(SignTeller x, int e, int f) {
        x.feature(e, f, 99);
        return 0;
    }

    private static long signed(SignTeller x, int f) {
        x.sign(f, 99);
        return 0;
    }

    // "A call that is refused, or throws, changes nothing."
    private static void changesNothing(State state, Refused refused) {
        SignTeller with = inState(state);
        SignTeller without = inState(state);
        String what = refused.call() + " of " + state;
        if (refused.due() == INDEX) {
            CHECK.throwsIndex(what, () -> refused.asked().of(with));
        } else if (refused.due() == ARITHMETIC) {
            CHECK.throwsArithmetic(what, () -> refused.asked().of(with));
        } else {
            CHECK.same(what, refused.asked().of(with), refused.due());
        }
        CHECK.sameText("behind " + what, seen(with), seen(without));
    }

    /**
     * All that can be seen of an object: first as it stands, then by calls that change it. The making
     * comes before another example is asked for, which could hide what a refused one left behind.
     */
    private static String seen(SignTeller x) {
        StringBuilder seen = new StringBuilder();
        addTold(seen, x);
        addWeights(seen, x);
        addConfused(seen, x, 0, 15);
        seen.append("margin ").append(x.margin(0));
        seen.append(", made ").append(madeOr0(x)).append("; ");
        addTold(seen, x);
        addWeights(seen, x);
        addConfused(seen, x, 3, 5);
        x.sign(0, 255);
        addTold(seen, x);
        seen.append("example ").append(x.example(5));
        seen.append(", made ").append(madeOr0(x)).append("; ");
        addTold(seen, x);
        return seen.append("clear ").append(x.clear()).toString();
    }

    private static int madeOr0(SignTeller x) {
        try {
            return x.make(1);
        } catch (ArithmeticException e) {
            return 0;
        }
    }

    private static void addConfused(StringBuilder seen, SignTeller x, int from, int to) {
        for (int c = from; c <= to; c++) {
            for (int n = from; n <= to; n++) {
                seen.append(x.confused(c, n)).append(' ');
            }
        }
    }

    private static void addTold(StringBuilder seen, SignTeller x) {
        for (int rank = 0; rank <= 1; rank++) {
            seen.append(x.tell(rank)).append(' ').append(x.distance(rank)).append("; ");
        }
    }

    private static void addWeights(StringBuilder seen, SignTeller x) {
        for (int cls = 0; cls < 16; cls++) {
            seen.append(x.weight(cls, 0)).append(' ').append(x.weight(cls, 1)).append("; ");
        }
    }
}
