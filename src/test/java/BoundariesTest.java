/**
 * A test of its own for each sentence of the document that names a boundary case. The sentence stands
 * above the test, so that both can be read side by side; refusals have theirs in RefusalsTest.
 */
public final class BoundariesTest {
    private static final int NO_VALUE = -1;
    private static final int LOWEST = Integer.MIN_VALUE;
    private static final int HIGHEST = Integer.MAX_VALUE;

    private static final Check CHECK = new Check();

    public static void main(String[] args) {
        terms();
        rounds();
        telling();
        calls();
        CHECK.end();
    }

    private static void terms() {
        lastCallIsAnswered();
        featuresEndAtTheirNumber();
        valuesAreBytes();
        classesAreSixteen();
        fortyExamplesAtMost();
        fullObjectTakesFeaturesAndMakes();
        examplesAreOfTheirClass();
        newExampleHasNoValues();
        exampleAfterClearHasNoValues();
        newSignHasNoValues();
        objectsShareNothing();
        meanOfFortyIsWhole();
        meanIsTheSumDivided();
        meanIsNotRounded();
        distanceGoesFromFeatureZeroOn();
        distanceWeighsTheSize();
        nearerByTheLeastStep();
        sameDistanceIsTheLesserClass();
        sameDistanceOfRankOne();
        sameDistanceIsConfusedAsTheLesser();
    }

    private static void rounds() {
        weightsAreOneAtFirst();
        noRoundsLeaveTheWeights();
        roundsAreAsManyAsAsked();
        roundGoesInTheExamplesOrder();
        sameDistanceInARound();
        sameDistanceInARoundOfTheLesser();
        equalSizesShiftNothing();
        sizeToItsClassIsUnweighted();
        sizeToTheNearestIsUnweighted();
        rightlyToldShiftsNothing();
        confusedIsCountedBehindAllRounds();
    }

    private static void telling() {
        blankIsAllFeaturesZero();
        blankIsBothRanks();
        blankComesBeforeNone();
        blankComesBeforeRejected();
        rejectedIsBelowTheMargin();
        rejectedByAPartOfOne();
        rejectedByTheLeastStep();
        rejectedByDistancesThatAreNotCut();
        marginZeroRejectsNothing();
        rejectedOnlyBesideAnother();
        noneIsOfRankOne();
    }

    private static void calls() {
        onlyTheLowestFourBits();
        newObjectHasNoExamples();
        newObjectHasNothingMade();
        signOfAnEmptyObject();
        makingLeavesExamplesSignAndMargin();
        distanceIsCutNotRounded();
        distanceOfABlankSign();
        distanceOfARejectedSign();
        distanceToNoOtherClass();
        weightWithoutExamples();
        weightWhenNothingIsMade();
        weightStaysAsMade();
        confusedWithoutAMaking();
        confusedOfTheLatestMaking();
        marginEnds();
        marginTellsWhatItWas();
        clearOfNone();
        clearOfForty();
        clearLeavesWhatWasMade();
        clearLeavesSignAndMargin();
        numbersBeginAgainBehindClear();
    }

    /** An object whose examples are the rows: the class, then the values from feature 0 on. */
    private static SignTeller taught(int features, int[]... rows) {
        SignTeller x = new SignTeller(features - 1);
        for (int e = 0; e < rows.length; e++) {
            x.example(rows[e][0]);
            for (int f = 1; f < rows[e].length; f++) {
                x.feature(e, f - 1, rows[e][f]);
            }
        }
        return x;
    }

    private static void tells(String what, SignTeller x, int first, int second) {
        CHECK.same(what + ", rank 0", x.tell(0), first);
        CHECK.same(what + ", rank 1", x.tell(1), second);
    }

    // "An object is used for at most 512 calls after it has been made."
    private static void lastCallIsAnswered() {
        SignTeller x = new SignTeller(15);
        for (int e = 0; e < 40; e++) {
            x.example(e % 16);
        }
        for (int e = 0; e < 40; e++) {
            x.feature(e, e % 16, 200);
        }
        x.sign(9, 200);
        for (int call = 82; call < 512; call++) {
            CHECK.same("make, call " + call, x.make(20), 1);
        }
        CHECK.same("tell, call 512", x.tell(0), 9);
    }

    // "FEATURES are 0 .. F - 1."
    private static void featuresEndAtTheirNumber() {
        for (int count = 1; count <= 16; count++) {
            SignTeller x = new SignTeller(count - 1);
            x.example(0);
            for (int f = -1; f <= 16; f++) {
                int feature = f;
                String at = "(" + f + ") of " + count;
                CHECK.quietIf(f >= 0 && f < count, "feature" + at, () -> x.feature(0, feature, 1));
                CHECK.quietIf(f >= 0 && f < count, "sign" + at, () -> x.sign(feature, 1));
                CHECK.quietIf(f >= 0 && f < count, "weight" + at, () -> x.weight(0, feature));
            }
        }
    }

    // "With values 0 .. 255" and "becomes the lowest byte of v."
    private static void valuesAreBytes() {
        for (int v = -260; v <= 520; v++) {
            valueIsByte(v, Math.floorMod(v, 256));
        }
        valueIsByte(LOWEST, 0);
        valueIsByte(LOWEST + 255, 255);
        valueIsByte(HIGHEST, 255);
        valueIsByte(HIGHEST - 255, 0);
    }

    private static void valueIsByte(int v, int due) {
        SignTeller x = taught(1, new int[] {0, v});
        x.make(0);
        CHECK.same("feature of " + v, x.distance(0), due * 1000L);
        SignTeller y = taught(1, new int[] {0, 0});
        y.make(0);
        y.sign(0, v);
        CHECK.same("sign of " + v, y.distance(0), due * 1000L);
    }

    // "CLASSES are 0 .. 15."
    private static void classesAreSixteen() {
        for (int cls = -1; cls <= 16; cls++) {
            boolean is = cls >= 0 && cls <= 15;
            SignTeller x = new SignTeller(0);
            int asked = cls;
            CHECK.same("example of class " + cls, x.example(cls), is ? 0 : SignTeller.OUTSIDE);
            CHECK.quietIf(is, "weight of class " + cls, () -> x.weight(asked, 0));
            CHECK.same("confused of class " + cls, x.confused(cls, 0), is ? 0 : SignTeller.OUTSIDE);
            CHECK.same("confused with class " + cls, x.confused(0, cls), is ? 0 : SignTeller.OUTSIDE);
            if (is) {
                x.make(1);
                x.sign(0, 1);
                tells("the only class " + cls, x, cls, SignTeller.NONE);
                CHECK.sameReal("its weight", x.weight(cls, 0), 1.0);
                CHECK.same("its examples told as it", x.confused(cls, cls), 1);
            }
        }
    }

    // "EXAMPLES are numbered 0, 1, .. (40 at most)."
    private static void fortyExamplesAtMost() {
        SignTeller x = new SignTeller(0);
        for (int e = 0; e < 40; e++) {
            CHECK.same("example " + e, x.example(15 - e % 16), e);
        }
        for (int cls = 0; cls < 16; cls++) {
            CHECK.same("example 40 of class " + cls, x.example(cls), SignTeller.ROOM);
        }
        CHECK.same("examples behind ROOM", x.clear(), 40);
    }

    // "(40 at most)": the last one is as good as any other.
    private static void fullObjectTakesFeaturesAndMakes() {
        SignTeller x = new SignTeller(0);
        for (int e = 0; e < 40; e++) {
            x.example(e == 39 ? 1 : 0);
        }
        x.feature(39, 0, 60);
        CHECK.same("make of 40", x.make(0), 1);
        x.sign(0, 31);
        tells("the last of 40", x, 1, 0);
        CHECK.same("the 39 others as their class", x.confused(0, 0), 39);
        CHECK.same("the last one as its class", x.confused(1, 1), 1);
    }

    // "Each of a class."
    private static void examplesAreOfTheirClass() {
        SignTeller x = taught(1, new int[] {4, 10}, new int[] {6, 90});
        x.clear();
        x.example(6);
        x.example(4);
        x.feature(0, 0, 10);
        x.feature(1, 0, 90);
        x.make(0);
        x.sign(0, 11);
        tells("classes of the new examples", x, 6, 4);
    }

    // "All its features 0 at first."
    private static void newExampleHasNoValues() {
        SignTeller x = new SignTeller(15);
        for (int e = 0; e < 40; e++) {
            x.example(3);
        }
        x.make(0);
        CHECK.same("distance of zeros to new examples", x.distance(0), 0);
    }

    // "All its features 0 at first": also where an example stood that went.
    private static void exampleAfterClearHasNoValues() {
        SignTeller x = new SignTeller(3);
        for (int e = 0; e < 40; e++) {
            x.example(3);
            for (int f = 0; f < 4; f++) {
                x.feature(e, f, 255);
            }
        }
        x.clear();
        for (int e = 0; e < 40; e++) {
            x.example(3);
        }
        x.make(0);
        CHECK.same("distance of zeros to examples after clear", x.distance(0), 0);
    }

    // "THE SIGN is a row of features, all 0 at first."
    private static void newSignHasNoValues() {
        SignTeller x = new SignTeller(15);
        x.example(0);
        for (int f = 0; f < 16; f++) {
            x.feature(0, f, 255);
        }
        x.make(0);
        CHECK.same("tell of a new sign", x.tell(0), SignTeller.BLANK);
        CHECK.same("distance of a new sign", x.distance(0), 16 * 255000);
    }

    // "No examples, nothing is made": whatever other objects hold.
    private static void objectsShareNothing() {
        SignTeller x = taught(1, new int[] {2, 10}, new int[] {7, 20});
        x.make(0);
        x.sign(0, 12);
        x.margin(5);
        SignTeller y = taught(1, new int[] {9, 77});
        CHECK.same("tell of the other object", y.tell(0), SignTeller.STATE);
        CHECK.same("margin of the other object", y.margin(100), 0);
        y.make(20);
        y.sign(0, 200);
        CHECK.same("distance of the other object", y.distance(0), 123000);
        y.clear();
        tells("the first object", x, 2, 7);
        CHECK.same("margin of the first object", x.margin(0), 5);
        CHECK.same("examples of the first object", x.clear(), 2);
    }

    // "For each feature the sum of its examples' values (a whole number)": the greatest one.
    private static void meanOfFortyIsWhole() {
        SignTeller x = new SignTeller(0);
        for (int e = 0; e < 40; e++) {
            x.example(15);
            x.feature(e, 0, 255);
        }
        x.make(0);
        CHECK.same("distance to forty times 255", x.distance(0), 255000);
    }

    // "The sum (a whole number) divided by their number": ten tenths, added, would stay below 1,
    // and 111 times a fifteenth below 7.4.
    private static void meanIsTheSumDivided() {
        SignTeller x = new SignTeller(0);
        for (int e = 0; e < 10; e++) {
            x.example(0);
            x.feature(e, 0, 1);
        }
        x.make(0);
        CHECK.same("distance to ten times 1", x.distance(0), 1000);

        SignTeller y = new SignTeller(0);
        for (int e = 0; e < 15; e++) {
            y.example(0);
        }
        y.feature(14, 0, 111);
        y.make(0);
        CHECK.same("distance to 111 by 15", y.distance(0), 7400);
    }

    // "REAL numbers are doubles."
    private static void meanIsNotRounded() {
        SignTeller x = taught(1, new int[] {0, 255}, new int[] {0, 255}, new int[] {0, 254});
        x.make(0);
        CHECK.same("distance to 764 by 3", x.distance(0), 254666);
        SignTeller y = taught(1, new int[] {0, 0}, new int[] {0, 1});
        y.make(0);
        CHECK.same("distance to a half", y.distance(0), 500);
    }

    /**
     * The class 'up' has the means 1/3, 2/3, 3/3 and 'down' the same the other way round. With zeros
     * for the sign's first features, 'up' is 2.0 far and 'down' one step of a double less. The last
     * feature adds nothing to either, but keeps the sign from being blank.
     */
    private static SignTeller upAndDown(int up, int down) {
        SignTeller x = taught(4, new int[] {up, 1, 1, 1, 9}, new int[] {up, 0, 1, 1, 9}, new int[] {up, 0, 0, 1, 9},
                new int[] {down, 1, 1, 1, 9}, new int[] {down, 1, 1, 0, 9}, new int[] {down, 1, 0, 0, 9});
        x.make(0);
        x.sign(3, 9);
        return x;
    }

    // "A sum, 0.0 at first, to which for each feature from 0 on comes .."
    private static void distanceGoesFromFeatureZeroOn() {
        SignTeller x = upAndDown(5, 6);
        CHECK.same("distance of two thirds to the first one", x.distance(1), 2000);
        CHECK.same("distance of the same ones turned", x.distance(0), 1999);
    }

    // "The weight times the size of the value less the mean": 0.875 times 2.8, which is not 2.45.
    private static void distanceWeighsTheSize() {
        SignTeller x = taught(1, new int[] {0, 0}, new int[] {0, 0}, new int[] {0, 0}, new int[] {0, 0},
                new int[] {0, 1}, new int[] {1, 1});
        x.make(1);
        x.sign(0, 3);
        CHECK.sameReal("weight of class 0", x.weight(0, 0), 0.875);
        CHECK.same("0.875 times 2.8", x.distance(1), 2449);
    }

    // "NEARER is the class with the lesser distance": be it by one step of a double.
    private static void nearerByTheLeastStep() {
        tells("the lesser class is farther", upAndDown(5, 6), 6, 5);
        tells("the greater class is farther", upAndDown(6, 5), 5, 6);
    }

    // "With the same one the lesser class."
    private static void sameDistanceIsTheLesserClass() {
        SignTeller x = taught(1, new int[] {15, 10}, new int[] {0, 20});
        x.make(0);
        x.sign(0, 15);
        tells("the same distance from both sides", x, 0, 15);
        SignTeller y = taught(1, new int[] {0, 10}, new int[] {15, 20});
        y.make(0);
        y.sign(0, 15);
        tells("the same distance, the other way", y, 0, 15);
    }

    // "With the same one the lesser class", of rank 1: "the nearest one of all others".
    private static void sameDistanceOfRankOne() {
        SignTeller x = taught(1, new int[] {11, 10}, new int[] {7, 10}, new int[] {2, 10});
        x.make(0);
        x.sign(0, 10);
        tells("three of the same distance", x, 2, 7);
        SignTeller y = taught(1, new int[] {11, 5}, new int[] {7, 15}, new int[] {14, 10});
        y.make(0);
        y.sign(0, 10);
        tells("two of the same distance behind the nearest", y, 14, 7);
        CHECK.same("distance of rank 1", y.distance(1), 5000);
    }

    // "With the same one the lesser class", of an example.
    private static void sameDistanceIsConfusedAsTheLesser() {
        SignTeller x = taught(1, new int[] {9, 30}, new int[] {4, 30});
        x.make(20);
        CHECK.same("the greater class as the lesser", x.confused(9, 4), 1);
        CHECK.same("the greater class as itself", x.confused(9, 9), 0);
        CHECK.same("the lesser class as itself", x.confused(4, 4), 1);
    }

    /**
     * Class 0 stands at 50 (0 and 100), class 1 at 97. The example at 100 is told wrongly as long as
     * the weight of class 0 times 50 is above 3, that is in each of twenty rounds.
     */
    private static SignTeller alwaysWrong() {
        return taught(1, new int[] {0, 0}, new int[] {0, 100}, new int[] {1, 97});
    }

    // "WEIGHTS .., 1.0 at first": of each making, not of the first one alone.
    private static void weightsAreOneAtFirst() {
        SignTeller x = alwaysWrong();
        for (int making = 1; making <= 3; making++) {
            x.make(1);
            CHECK.sameReal("weight of making " + making, x.weight(0, 0), 0.875);
        }
        x.make(0);
        CHECK.sameReal("weight of a making without rounds", x.weight(0, 0), 1.0);
    }

    // "(Rounds 0 .. 20)": none.
    private static void noRoundsLeaveTheWeights() {
        SignTeller x = alwaysWrong();
        CHECK.same("make(0)", x.make(0), 1);
        CHECK.sameReal("weight of class 0", x.weight(0, 0), 1.0);
        CHECK.sameReal("weight of class 1", x.weight(1, 0), 1.0);
        CHECK.same("told wrongly", x.confused(0, 1), 1);
    }

    // "A MAKING with so many rounds": from 0 to 20.
    private static void roundsAreAsManyAsAsked() {
        double due = 1.0;
        for (int rounds = 0; rounds <= 20; rounds++) {
            SignTeller x = alwaysWrong();
            CHECK.same("make(" + rounds + ")", x.make(rounds), 1);
            CHECK.sameReal("weight of class 0 by " + rounds, x.weight(0, 0), due);
            CHECK.sameReal("weight of class 1 by " + rounds, x.weight(1, 0), 1.0);
            due = due * 0.875;
        }
    }

    // "A ROUND goes through the examples in their order." Class 0 stands at 50 and class 1 at 97; once
    // the example at 100 has lessened the weight of class 0, the one at 74 is nearer to class 0 too.
    private static void roundGoesInTheExamplesOrder() {
        SignTeller x = taught(1, new int[] {0, 0}, new int[] {0, 100}, new int[] {1, 74}, new int[] {1, 120});
        x.make(1);
        CHECK.sameReal("74 behind 100", x.weight(0, 0), 0.875 * 1.125);
        CHECK.sameReal("74 behind 100, its class", x.weight(1, 0), 1.0);
        SignTeller y = taught(1, new int[] {1, 74}, new int[] {1, 120}, new int[] {0, 0}, new int[] {0, 100});
        y.make(1);
        CHECK.sameReal("74 before 100", y.weight(0, 0), 0.875);
        CHECK.sameReal("74 before 100, its class", y.weight(1, 0), 1.0);
    }

    /**
     * The class 'apart' has the mean 10, 0, 10, 7; its first example is 20 far from it, and 20 from
     * the one example of the class 'alone'. In the last two features it is as far from both.
     */
    private static SignTeller tied(int apart, int alone) {
        return taught(4, new int[] {apart, 0, 0, 0, 7}, new int[] {apart, 20, 0, 20, 7},
                new int[] {alone, 5, 5, 10, 7});
    }

    private static void weightsAre(String what, SignTeller x, int cls, double... due) {
        for (int f = 0; f < due.length; f++) {
            CHECK.sameReal(what + ", weight(" + cls + ", " + f + ")", x.weight(cls, f), due[f]);
        }
    }

    // "If the nearest class n is not the example's class c": of the same distance n is the lesser one.
    private static void sameDistanceInARound() {
        SignTeller x = tied(3, 1);
        x.make(1);
        CHECK.sameReal("a above b, the weight of c", x.weight(3, 0), 0.875);
        CHECK.sameReal("a above b, the weight of n", x.weight(1, 0), 1.0);
        CHECK.sameReal("b above a, the weight of c", x.weight(3, 1), 1.0);
        CHECK.sameReal("b above a, the weight of n", x.weight(1, 1), 1.125);
    }

    // The same where c is the lesser one: the example is told rightly.
    private static void sameDistanceInARoundOfTheLesser() {
        SignTeller x = tied(1, 3);
        x.make(20);
        weightsAre("the same distance, c is the lesser", x, 1, 1.0, 1.0, 1.0, 1.0);
        weightsAre("the same distance, n is the greater", x, 3, 1.0, 1.0, 1.0, 1.0);
    }

    // "If a is above b ..; if b is above a ..": neither where they are the same, 10 or 0.
    private static void equalSizesShiftNothing() {
        SignTeller x = tied(3, 1);
        x.make(1);
        weightsAre("equal sizes", x, 3, 0.875, 1.0, 1.0, 1.0);
        weightsAre("equal sizes", x, 1, 1.0, 1.125, 1.0, 1.0);
    }

    // "A being the size of its value less c's mean": without its weight, which in the third round makes
    // 38.28 of the 50 that feature 0 of the second example is far, while b is 40.
    private static void sizeToItsClassIsUnweighted() {
        SignTeller x = taught(2, new int[] {0, 0, 0}, new int[] {0, 100, 200}, new int[] {1, 60, 200});
        x.make(4);
        double due = 0.875 * 0.875 * 0.875 * 0.875;
        weightsAre("the weights of c", x, 0, due, due);
        weightsAre("the weights of n", x, 1, 1.0, 1.0);
    }

    // "B of its value less n's mean": without its weight. By it class 0 is 21 far from the example at 74
    // and class 1 is 23, but b is 24.
    private static void sizeToTheNearestIsUnweighted() {
        SignTeller x = taught(1, new int[] {0, 0}, new int[] {0, 100}, new int[] {1, 74}, new int[] {1, 120});
        x.make(2);
        CHECK.sameReal("weight of n, b above a", x.weight(0, 0), 0.875 * 1.125 * 0.875 * 1.125);
        CHECK.sameReal("weight of c, b above a", x.weight(1, 0), 1.0);
    }

    // "If the nearest class n is not the example's class c": where it is, nothing becomes other.
    private static void rightlyToldShiftsNothing() {
        SignTeller x = taught(1, new int[] {0, 10}, new int[] {0, 20}, new int[] {8, 200}, new int[] {8, 250});
        x.make(20);
        CHECK.sameReal("weight of class 0", x.weight(0, 0), 1.0);
        CHECK.sameReal("weight of class 8", x.weight(8, 0), 1.0);
    }

    // "Behind all rounds each example is told once more." The example at 74 is told rightly in the
    // round, and wrongly behind it.
    private static void confusedIsCountedBehindAllRounds() {
        SignTeller x = taught(1, new int[] {1, 74}, new int[] {1, 120}, new int[] {0, 0}, new int[] {0, 100});
        x.make(1);
        CHECK.same("class 0 as 0", x.confused(0, 0), 1);
        CHECK.same("class 0 as 1", x.confused(0, 1), 1);
        CHECK.same("class 1 as 0", x.confused(1, 0), 1);
        CHECK.same("class 1 as 1", x.confused(1, 1), 1);
    }

    // "BLANK (both) if all its features are 0."
    private static void blankIsAllFeaturesZero() {
        for (int count = 1; count <= 16; count++) {
            SignTeller x = taught(count, new int[] {4});
            x.make(0);
            CHECK.same("no value of " + count, x.tell(0), SignTeller.BLANK);
            for (int f = 0; f < count; f++) {
                x.sign(f, 1);
                CHECK.same("the value " + f + " of " + count, x.tell(0), 4);
                x.sign(f, 256);
                CHECK.same("again no value of " + count, x.tell(0), SignTeller.BLANK);
            }
        }
    }

    // "BLANK (both)."
    private static void blankIsBothRanks() {
        SignTeller x = taught(1, new int[] {4, 0}, new int[] {5, 100});
        x.make(0);
        tells("the blank sign", x, SignTeller.BLANK, SignTeller.BLANK);
    }

    // "BLANK (both) if ..; otherwise ..": also where there is no other class.
    private static void blankComesBeforeNone() {
        SignTeller x = taught(1, new int[] {4, 10});
        x.make(0);
        tells("the blank sign, one class", x, SignTeller.BLANK, SignTeller.BLANK);
    }

    // "BLANK (both) if ..; otherwise ..": also where the nearest two are too close.
    private static void blankComesBeforeRejected() {
        SignTeller x = taught(1, new int[] {4, 10}, new int[] {5, 11});
        x.make(0);
        x.margin(100000);
        tells("the blank sign, two close classes", x, SignTeller.BLANK, SignTeller.BLANK);
    }

    // "REJECTED (both) if .. its distance less the nearest one's is below the MARGIN": 3, 4 and 5 of 4.
    private static void rejectedIsBelowTheMargin() {
        SignTeller x = taught(1, new int[] {2, 10}, new int[] {7, 20});
        x.make(0);
        x.sign(0, 13);
        x.margin(3);
        tells("4 of 3", x, 2, 7);
        x.margin(4);
        tells("4 of 4", x, 2, 7);
        x.margin(5);
        tells("4 of 5", x, SignTeller.REJECTED, SignTeller.REJECTED);
        x.margin(100000);
        tells("4 of 100000", x, SignTeller.REJECTED, SignTeller.REJECTED);
    }

    // The same where the lead is no whole number: the means are 10.5 and 20, so 13 is 2.5 and 7 far.
    private static void rejectedByAPartOfOne() {
        SignTeller x = taught(1, new int[] {2, 10}, new int[] {2, 11}, new int[] {7, 20});
        x.make(0);
        x.sign(0, 13);
        x.margin(4);
        tells("4.5 of 4", x, 2, 7);
        x.margin(5);
        tells("4.5 of 5", x, SignTeller.REJECTED, SignTeller.REJECTED);
        SignTeller y = taught(1, new int[] {2, 13}, new int[] {7, 13}, new int[] {7, 14});
        y.make(0);
        y.sign(0, 13);
        tells("0.5 of 0", y, 2, 7);
        y.margin(1);
        tells("0.5 of 1", y, SignTeller.REJECTED, SignTeller.REJECTED);
    }

    // The same where the lead is 2.0 and where it is one step of a double less.
    private static void rejectedByTheLeastStep() {
        int[] zeros = {2, 0, 0, 0, 9};
        SignTeller x = taught(4, zeros, new int[] {7, 1, 1, 1, 9}, new int[] {7, 0, 1, 1, 9}, new int[] {7, 0, 0, 1, 9});
        x.make(0);
        x.sign(3, 9);
        x.margin(2);
        tells("2.0 of 2", x, 2, 7);
        SignTeller y = taught(4, zeros, new int[] {7, 1, 1, 1, 9}, new int[] {7, 1, 1, 0, 9}, new int[] {7, 1, 0, 0, 9});
        y.make(0);
        y.sign(3, 9);
        y.margin(2);
        tells("a step less than 2.0 of 2", y, SignTeller.REJECTED, SignTeller.REJECTED);
    }

    // The same for 2/3 and 5/3, whose lead as doubles is a step below 1, though they are cut to 666 and 1666.
    private static void rejectedByDistancesThatAreNotCut() {
        SignTeller x = taught(4, new int[] {2, 1, 0, 0, 9}, new int[] {2, 1, 0, 0, 9}, new int[] {2, 0, 0, 0, 9},
                new int[] {7, 0, 1, 1, 9}, new int[] {7, 0, 1, 1, 9}, new int[] {7, 0, 0, 1, 9});
        x.make(0);
        x.sign(3, 9);
        CHECK.same("2/3", x.distance(0), 666);
        CHECK.same("5/3", x.distance(1), 1666);
        x.margin(1);
        tells("a step less than 1 of 1", x, SignTeller.REJECTED, SignTeller.REJECTED);
    }

    // "The MARGIN (0 at first)": no distance less a nearer one is below 0.
    private static void marginZeroRejectsNothing() {
        SignTeller x = taught(1, new int[] {2, 10}, new int[] {7, 20});
        x.make(0);
        x.sign(0, 15);
        tells("0 of the first margin", x, 2, 7);
        x.margin(1);
        tells("0 of 1", x, SignTeller.REJECTED, SignTeller.REJECTED);
        x.margin(0);
        tells("0 of 0", x, 2, 7);
    }

    // "REJECTED (both) if there is another one."
    private static void rejectedOnlyBesideAnother() {
        SignTeller x = taught(1, new int[] {2, 10});
        x.make(0);
        x.sign(0, 10);
        x.margin(100000);
        tells("the only class under the greatest margin", x, 2, SignTeller.NONE);
    }

    // "NONE (of rank 1: there is no other class)": as it was made, whatever examples came since.
    private static void noneIsOfRankOne() {
        SignTeller x = taught(1, new int[] {0, 10}, new int[] {0, 20});
        x.make(0);
        x.sign(0, 10);
        tells("one class of two examples", x, 0, SignTeller.NONE);
        x.example(1);
        tells("an example more, not made", x, 0, SignTeller.NONE);
        x.make(0);
        tells("an example more, made", x, 0, 1);
    }

    // "A MAKING makes, of the examples as they are" what it makes, and nothing else.
    private static void makingLeavesExamplesSignAndMargin() {
        SignTeller x = alwaysWrong();
        x.sign(0, 72);
        x.margin(4);
        x.make(20);
        x.make(0);
        CHECK.same("distance behind makings", x.distance(0), 22000);
        CHECK.same("distance(1) behind makings", x.distance(1), 25000);
        tells("the margin behind makings", x, SignTeller.REJECTED, SignTeller.REJECTED);
        CHECK.same("the number behind makings", x.example(0), 3);
    }

    // "F is 1 more than the lowest four bits of features."
    private static void onlyTheLowestFourBits() {
        for (int bits = 0; bits < 16; bits++) {
            int[] alike = {bits, bits + 16, bits + 32, bits - 16, bits + 256, LOWEST + bits, HIGHEST - 15 + bits};
            for (int features : alike) {
                SignTeller x = new SignTeller(features);
                int last = bits;
                CHECK.quiet("the last of " + features, () -> x.sign(last, 1));
                CHECK.throwsIndex("behind the last of " + features, () -> x.sign(last + 1, 1));
            }
        }
    }

    // "No examples."
    private static void newObjectHasNoExamples() {
        CHECK.throwsIndex("feature, new", () -> new SignTeller(0).feature(0, 0, 1));
        CHECK.throwsArithmetic("make, new", () -> new SignTeller(0).make(0));
        CHECK.same("clear, new", new SignTeller(0).clear(), 0);
        CHECK.same("example, new", new SignTeller(0).example(0), 0);
    }

    // "Nothing is made": also not by examples alone.
    private static void newObjectHasNothingMade() {
        SignTeller x = new SignTeller(0);
        tells("new", x, SignTeller.STATE, SignTeller.STATE);
        x.example(0);
        x.sign(0, 1);
        tells("an example, nothing made", x, SignTeller.STATE, SignTeller.STATE);
        CHECK.same("distance, nothing made", x.distance(0), SignTeller.STATE);
        CHECK.same("distance(1), nothing made", x.distance(1), SignTeller.STATE);
    }

    // "A feature of the sign becomes the lowest byte of v": without examples, and before a making.
    private static void signOfAnEmptyObject() {
        SignTeller x = new SignTeller(1);
        x.sign(1, 42);
        x.example(0);
        x.make(0);
        CHECK.same("distance of the sign set before", x.distance(0), 42000);
        x.make(0);
        CHECK.same("distance of the sign behind a making", x.distance(0), 42000);
    }

    // "Times 1000, cut to a whole number": 2/3, 1/3, a step less than 2, and less than a thousandth.
    private static void distanceIsCutNotRounded() {
        SignTeller x = taught(1, new int[] {0, 0}, new int[] {0, 1}, new int[] {0, 1});
        x.make(0);
        CHECK.same("2/3", x.distance(0), 666);
        x.sign(0, 1);
        CHECK.same("1/3", x.distance(0), 333);
        CHECK.same("a step less than 2", upAndDown(5, 6).distance(0), 1999);
        SignTeller y = taught(1, new int[] {0, 99}, new int[] {0, 100}, new int[] {0, 100}, new int[] {0, 100},
                new int[] {1, 100});
        y.make(20);
        y.sign(0, 100);
        tells("0 and 0.25 times 0.875 sixty times", y, 1, 0);
        CHECK.same("0", y.distance(0), 0);
        CHECK.same("0.25 times 0.875 sixty times", y.distance(1), 0);
    }

    // "(Also when it is BLANK ..)"
    private static void distanceOfABlankSign() {
        SignTeller x = taught(1, new int[] {2, 10}, new int[] {7, 20});
        x.make(0);
        CHECK.same("tell", x.tell(0), SignTeller.BLANK);
        CHECK.same("distance(0)", x.distance(0), 10000);
        CHECK.same("distance(1)", x.distance(1), 20000);
    }

    // "(Also when it is .. REJECTED)"
    private static void distanceOfARejectedSign() {
        SignTeller x = taught(1, new int[] {2, 10}, new int[] {7, 20});
        x.make(0);
        x.sign(0, 14);
        x.margin(3);
        CHECK.same("tell", x.tell(0), SignTeller.REJECTED);
        CHECK.same("distance(0)", x.distance(0), 4000);
        CHECK.same("distance(1)", x.distance(1), 6000);
    }

    // "NONE .. as tell()": also for a blank sign, whose distance is told.
    private static void distanceToNoOtherClass() {
        SignTeller x = taught(1, new int[] {2, 10});
        x.make(0);
        CHECK.same("distance(1), blank", x.distance(1), SignTeller.NONE);
        x.sign(0, 10);
        CHECK.same("distance(1)", x.distance(1), SignTeller.NONE);
        CHECK.same("distance(0)", x.distance(0), 0);
    }

    // "0.0 of a class that had no examples": none ever, none any more, and none yet.
    private static void weightWithoutExamples() {
        SignTeller x = taught(2, new int[] {2, 10, 10});
        x.make(3);
        for (int cls = 0; cls < 16; cls++) {
            double due = cls == 2 ? 1.0 : 0.0;
            weightsAre("one class", x, cls, due, due);
        }
        x.clear();
        x.example(3);
        weightsAre("not made again", x, 2, 1.0, 1.0);
        weightsAre("not made yet", x, 3, 0.0, 0.0);
        x.make(3);
        weightsAre("the class that went", x, 2, 0.0, 0.0);
        weightsAre("the class that came", x, 3, 1.0, 1.0);
    }

    // "And when nothing is made."
    private static void weightWhenNothingIsMade() {
        SignTeller x = taught(16, new int[] {0}, new int[] {15});
        for (int f = 0; f < 16; f++) {
            for (int cls = 0; cls < 16; cls++) {
                CHECK.sameReal("weight(" + cls + ", " + f + "), nothing made", x.weight(cls, f), 0.0);
            }
        }
    }

    // "A weight as it was made": whatever the examples became since.
    private static void weightStaysAsMade() {
        SignTeller x = alwaysWrong();
        x.make(2);
        x.feature(1, 0, 0);
        x.feature(2, 0, 56);
        x.example(9);
        x.sign(0, 55);
        x.tell(0);
        CHECK.sameReal("weight of class 0", x.weight(0, 0), 0.875 * 0.875);
        CHECK.sameReal("weight of class 9", x.weight(9, 0), 0.0);
        CHECK.same("distance to the mean as it was made", x.distance(0), 3828);
        CHECK.same("distance to the other mean as it was made", x.distance(1), 42000);
    }

    // "0 without one."
    private static void confusedWithoutAMaking() {
        SignTeller x = taught(1, new int[] {0, 10}, new int[] {15, 20});
        for (int c = 0; c < 16; c++) {
            for (int n = 0; n < 16; n++) {
                CHECK.same("confused(" + c + ", " + n + "), nothing made", x.confused(c, n), 0);
            }
        }
    }

    // "CONFUSED(c, n) of the latest making."
    private static void confusedOfTheLatestMaking() {
        SignTeller x = taught(1, new int[] {15, 10}, new int[] {0, 10});
        x.make(0);
        CHECK.same("confused(15, 0)", x.confused(15, 0), 1);
        CHECK.same("confused(0, 15)", x.confused(0, 15), 0);
        x.feature(0, 0, 90);
        CHECK.same("confused(15, 0), not made again", x.confused(15, 0), 1);
        x.make(0);
        CHECK.same("confused(15, 0), made again", x.confused(15, 0), 0);
        CHECK.same("confused(15, 15), made again", x.confused(15, 15), 1);
        x.clear();
        x.example(6);
        CHECK.same("confused(15, 15), cleared", x.confused(15, 15), 1);
        x.make(0);
        CHECK.same("confused(15, 15), the class went", x.confused(15, 15), 0);
        CHECK.same("confused(6, 6), the class came", x.confused(6, 6), 1);
    }

    // "OUTSIDE (0 .. 100000)."
    private static void marginEnds() {
        int[][] marginAndAnswer = {
            {LOWEST, NO_VALUE}, {-100000, NO_VALUE}, {-1, NO_VALUE}, {0, 0}, {1, 0}, {99999, 1},
            {100000, 99999}, {100001, NO_VALUE}, {HIGHEST, NO_VALUE}, {0, 100000}
        };
        SignTeller x = new SignTeller(0);
        for (int[] row : marginAndAnswer) {
            int due = row[1] == NO_VALUE ? SignTeller.OUTSIDE : row[1];
            CHECK.same("margin(" + row[0] + ")", x.margin(row[0]), due);
        }
    }

    // "The MARGIN: what it was", "(0 at first)".
    private static void marginTellsWhatItWas() {
        SignTeller x = new SignTeller(0);
        CHECK.same("the first margin", x.margin(8), 0);
        CHECK.same("the margin", x.margin(8), 8);
        CHECK.same("the same margin again", x.margin(0), 8);
        CHECK.same("no margin", x.margin(0), 0);
    }

    // "All examples go ..: how many there were": none.
    private static void clearOfNone() {
        SignTeller x = new SignTeller(0);
        CHECK.same("clear, new", x.clear(), 0);
        x.example(0);
        CHECK.same("clear of one", x.clear(), 1);
        CHECK.same("clear of none again", x.clear(), 0);
    }

    // "All examples go ..: how many there were": all there can be.
    private static void clearOfForty() {
        SignTeller x = new SignTeller(0);
        for (int e = 0; e < 41; e++) {
            x.example(0);
        }
        CHECK.same("clear of forty", x.clear(), 40);
        CHECK.throwsIndex("the first one went", () -> x.feature(0, 0, 1));
        CHECK.throwsIndex("the last one went", () -> x.feature(39, 0, 1));
        CHECK.throwsArithmetic("make without them", () -> x.make(0));
    }

    // "(What was made stays)."
    private static void clearLeavesWhatWasMade() {
        SignTeller x = alwaysWrong();
        x.make(1);
        x.sign(0, 60);
        x.clear();
        tells("cleared", x, 0, 1);
        CHECK.same("distance, cleared", x.distance(0), 8750);
        CHECK.same("distance(1), cleared", x.distance(1), 37000);
        CHECK.sameReal("weight, cleared", x.weight(0, 0), 0.875);
        CHECK.same("confused, cleared", x.confused(0, 1), 1);
    }

    // "All examples go": and nothing else.
    private static void clearLeavesSignAndMargin() {
        SignTeller x = taught(1, new int[] {2, 10}, new int[] {7, 20});
        x.make(0);
        x.sign(0, 14);
        x.margin(3);
        x.clear();
        CHECK.same("the sign, cleared", x.distance(0), 4000);
        tells("sign and margin, cleared", x, SignTeller.REJECTED, SignTeller.REJECTED);
        CHECK.same("the margin, cleared", x.margin(0), 3);
    }

    // "EXAMPLES are numbered 0, 1, .. (40 at most)": and again 40 when all have gone.
    private static void numbersBeginAgainBehindClear() {
        SignTeller x = new SignTeller(0);
        for (int time = 1; time <= 3; time++) {
            for (int e = 0; e < 40; e++) {
                CHECK.same("example " + e + ", time " + time, x.example(5), e);
            }
            CHECK.same("example 40, time " + time, x.example(5), SignTeller.ROOM);
            x.clear();
        }
    }
}
