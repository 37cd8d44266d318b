/** Each promise of the document by calls whose answers were worked out by hand. */
public final class PromisesTest {
    private static final int LOWEST = Integer.MIN_VALUE;
    private static final int HIGHEST = Integer.MAX_VALUE;
    private static final int[] NO_CLASSES = {-1, 16, 17, 256, LOWEST, HIGHEST};

    private static final Check CHECK = new Check();

    public static void main(String[] args) {
        constants();
        newObjectHasItsFeatures();
        newObjectIsEmpty();
        exampleIsNumbered();
        exampleStartsWithZeros();
        featureTakesTheLowestByte();
        featureThrows();
        makeRefuses();
        makeTakesTheExamplesAsTheyAre();
        makeForgetsTheMakingBefore();
        makeDividesSums();
        roundsShiftWeights();
        roundsLeaveWhatIsEquallyFar();
        roundsGoExampleByExample();
        signTakesTheLowestByte();
        signThrows();
        tellTellsTheNearestTwo();
        tellTakesTheLesserClassOfTwoAlike();
        tellTellsBlank();
        tellTellsNone();
        tellTellsRejected();
        distanceIsCut();
        distanceIgnoresBlankAndRejected();
        weightThrows();
        confusedCountsTheLatestMaking();
        confusedRefuses();
        marginAnswersWhatItWas();
        clearKeepsWhatWasMade();
        CHECK.end();
    }

    private static void constants() {
        CHECK.same("NONE", SignTeller.NONE, -1);
        CHECK.same("REJECTED", SignTeller.REJECTED, -2);
        CHECK.same("BLANK", SignTeller.BLANK, -3);
        CHECK.same("OUTSIDE", SignTeller.OUTSIDE, -12);
        CHECK.same("STATE", SignTeller.STATE, -13);
        CHECK.same("ROOM", SignTeller.ROOM, -14);
    }

    // Promise 1

    private static void newObjectHasItsFeatures() {
        int[][] featuresAndCount = {
            {0, 1}, {1, 2}, {7, 8}, {15, 16}, {16, 1}, {31, 16}, {-1, 16}, {-16, 1}, {LOWEST, 1}, {HIGHEST, 16}
        };
        for (int[] row : featuresAndCount) {
            SignTeller x = new SignTeller(row[0]);
            x.example(0);
            String made = "of new SignTeller(" + row[0] + ") ";
            CHECK.quiet(made + "the last sign", () -> x.sign(row[1] - 1, 1));
            CHECK.throwsIndex(made + "the sign behind", () -> x.sign(row[1], 1));
            CHECK.quiet(made + "the last feature", () -> x.feature(0, row[1] - 1, 1));
            CHECK.throwsIndex(made + "the feature behind", () -> x.feature(0, row[1], 1));
            CHECK.quiet(made + "the last weight", () -> x.weight(0, row[1] - 1));
            CHECK.throwsIndex(made + "the weight behind", () -> x.weight(0, row[1]));
        }
    }

    private static void newObjectIsEmpty() {
        SignTeller x = new SignTeller(2);
        CHECK.throwsIndex("feature of no example", () -> x.feature(0, 0, 1));
        CHECK.throwsArithmetic("make of no examples", () -> x.make(0));
        CHECK.same("tell, new", x.tell(0), SignTeller.STATE);
        CHECK.same("tell(1), new", x.tell(1), SignTeller.STATE);
        CHECK.same("distance, new", x.distance(0), SignTeller.STATE);
        CHECK.same("distance(1), new", x.distance(1), SignTeller.STATE);
        CHECK.sameReal("weight, new", x.weight(0, 0), 0.0);
        CHECK.sameReal("last weight, new", x.weight(15, 2), 0.0);
        CHECK.same("confused, new", x.confused(0, 0), 0);
        CHECK.same("last confused, new", x.confused(15, 15), 0);
        CHECK.same("clear, new", x.clear(), 0);
        CHECK.same("margin, new", x.margin(5), 0);
    }

    // Promise 2

    private static void exampleIsNumbered() {
        SignTeller x = new SignTeller(0);
        for (int e = 0; e < 40; e++) {
            for (int cls : NO_CLASSES) {
                CHECK.same("example of class " + cls, x.example(cls), SignTeller.OUTSIDE);
            }
            CHECK.same("example " + e, x.example(e % 16), e);
        }
        CHECK.same("example 40", x.example(0), SignTeller.ROOM);
        CHECK.same("example 40 again", x.example(15), SignTeller.ROOM);
        CHECK.same("example, refused twice", x.example(16), SignTeller.OUTSIDE);
        CHECK.quiet("the last example", () -> x.feature(39, 0, 1));
        CHECK.throwsIndex("the refused example", () -> x.feature(40, 0, 1));
        CHECK.same("clear of all", x.clear(), 40);
        CHECK.same("example after clear", x.example(0), 0);
    }

    private static void exampleStartsWithZeros() {
        SignTeller x = new SignTeller(1);
        x.example(4);
        x.feature(0, 0, 200);
        x.feature(0, 1, 100);
        x.clear();
        x.example(4);
        x.make(0);
        CHECK.same("distance to zeros", x.distance(0), 0);
        x.feature(0, 1, 7);
        x.make(0);
        CHECK.same("distance to 0, 7", x.distance(0), 7000);
    }

    // Promise 3

    private static void featureTakesTheLowestByte() {
        int[][] valueAndByte = {
            {0, 0}, {1, 1}, {255, 255}, {256, 0}, {261, 5}, {-1, 255}, {-256, 0}, {LOWEST, 0}, {HIGHEST, 255}
        };
        for (int[] row : valueAndByte) {
            SignTeller x = new SignTeller(1);
            x.example(2);
            x.feature(0, 1, 9);
            x.feature(0, 1, row[0]);
            x.make(0);
            CHECK.same("a feature set to " + row[0], x.distance(0), row[1] * 1000L);
        }
    }

    private static void featureThrows() {
        SignTeller x = new SignTeller(1);
        x.example(0);
        x.example(0);
        x.feature(0, 0, 10);
        int[][] noSuch = {
            {-1, 0}, {2, 0}, {3, 1}, {39, 0}, {40, 0}, {LOWEST, 0}, {HIGHEST, 0},
            {0, -1}, {0, 2}, {1, 3}, {0, 16}, {0, LOWEST}, {0, HIGHEST}, {-1, -1}, {2, 2}
        };
        for (int[] row : noSuch) {
            CHECK.throwsIndex("feature(" + row[0] + ", " + row[1] + ")", () -> x.feature(row[0], row[1], 77));
        }
        x.make(0);
        CHECK.same("distance after throws", x.distance(0), 5000);
        x.clear();
        CHECK.throwsIndex("feature after clear", () -> x.feature(0, 0, 1));
    }

    // Promise 4

    private static void makeRefuses() {
        int[] noRounds = {-1, 21, 22, LOWEST, HIGHEST};
        SignTeller x = new SignTeller(0);
        for (int rounds : noRounds) {
            CHECK.same("make(" + rounds + ") of no examples", x.make(rounds), SignTeller.OUTSIDE);
        }
        CHECK.throwsArithmetic("make(0) of no examples", () -> x.make(0));
        CHECK.throwsArithmetic("make(20) of no examples", () -> x.make(20));
        CHECK.same("tell after refused makes", x.tell(0), SignTeller.STATE);

        x.example(3);
        x.feature(0, 0, 50);
        CHECK.same("make(0)", x.make(0), 1);
        CHECK.same("make(20)", x.make(20), 1);
        x.feature(0, 0, 60);
        for (int rounds : noRounds) {
            CHECK.same("make(" + rounds + ")", x.make(rounds), SignTeller.OUTSIDE);
        }
        CHECK.same("distance after refused makes", x.distance(0), 50000);
        x.clear();
        CHECK.throwsArithmetic("make after clear", () -> x.make(1));
        CHECK.same("distance after a make that threw", x.distance(0), 50000);
        CHECK.same("confused after a make that threw", x.confused(3, 3), 1);
        CHECK.sameReal("weight after a make that threw", x.weight(3, 0), 1.0);
    }

    private static void makeTakesTheExamplesAsTheyAre() {
        SignTeller x = new SignTeller(0);
        x.example(1);
        x.feature(0, 0, 40);
        x.make(0);
        x.example(2);
        x.feature(0, 0, 90);
        x.feature(1, 0, 8);
        x.sign(0, 8);
        CHECK.same("tell of what was made before", x.tell(0), 1);
        CHECK.same("rank 1 of what was made before", x.tell(1), SignTeller.NONE);
        CHECK.same("distance of what was made before", x.distance(0), 32000);
        x.make(0);
        CHECK.same("tell of what is made now", x.tell(0), 2);
        CHECK.same("rank 1 of what is made now", x.tell(1), 1);
        CHECK.same("distance of what is made now", x.distance(1), 82000);
    }

    private static void makeForgetsTheMakingBefore() {
        SignTeller x = twoClassesConfused();
        x.make(1);
        CHECK.sameReal("weight before", x.weight(3, 0), 0.875);
        x.make(0);
        CHECK.sameReal("weight of no rounds", x.weight(3, 0), 1.0);
        CHECK.sameReal("other weight of no rounds", x.weight(5, 1), 1.0);
        x.clear();
        x.example(5);
        x.make(0);
        CHECK.sameReal("weight of the class that went", x.weight(3, 0), 0.0);
        CHECK.sameReal("weight of the class that came", x.weight(5, 0), 1.0);
        CHECK.same("confused of the class that went", x.confused(3, 3), 0);
        CHECK.same("confused of the class that came", x.confused(5, 5), 1);
        x.sign(0, 20);
        CHECK.same("tell without the class that went", x.tell(0), 5);
        CHECK.same("distance to zeros alone", x.distance(0), 20000);
        CHECK.same("rank 1 without the class that went", x.tell(1), SignTeller.NONE);
    }

    private static void makeDividesSums() {
        SignTeller x = new SignTeller(0);
        int[] values = {255, 255, 254, 1, 0, 0, 3};
        for (int e = 0; e < values.length; e++) {
            x.example(9);
            x.feature(e, 0, values[e]);
        }
        x.make(0);
        CHECK.same("distance to 768 by 7", x.distance(0), 109714);
        x.sign(0, 200);
        CHECK.same("distance of 200 to 768 by 7", x.distance(0), 90285);
    }

    /** Means 20.5, 20.5 of class 3 and 30, 22 of class 5; the third example is nearer to class 5. */
    private static SignTeller twoClassesConfused() {
        SignTeller x = new SignTeller(1);
        x.example(3);
        x.example(5);
        x.example(3);
        x.feature(0, 0, 10);
        x.feature(0, 1, 20);
        x.feature(1, 0, 30);
        x.feature(1, 1, 22);
        x.feature(2, 0, 31);
        x.feature(2, 1, 21);
        return x;
    }

    private static void roundsShiftWeights() {
        SignTeller x = twoClassesConfused();
        x.make(1);
        CHECK.sameReal("weight of c, a above b", x.weight(3, 0), 0.875);
        CHECK.sameReal("weight of c, b above a", x.weight(3, 1), 1.0);
        CHECK.sameReal("weight of n, a above b", x.weight(5, 0), 1.0);
        CHECK.sameReal("weight of n, b above a", x.weight(5, 1), 1.125);
        CHECK.sameReal("weight of no class", x.weight(4, 0), 0.0);
        x.make(2);
        CHECK.sameReal("weight of c after two rounds", x.weight(3, 0), 0.765625);
        CHECK.sameReal("weight of n after two rounds", x.weight(5, 1), 1.265625);
    }

    private static void roundsLeaveWhatIsEquallyFar() {
        SignTeller x = new SignTeller(1);
        x.example(0);
        x.example(1);
        x.feature(0, 0, 10);
        x.feature(1, 0, 10);
        x.make(20);
        CHECK.sameReal("weight of class 0, equally far", x.weight(0, 0), 1.0);
        CHECK.sameReal("weight of class 1, equally far", x.weight(1, 0), 1.0);
        CHECK.same("the lesser class is the nearest", x.confused(1, 0), 1);
    }

    // Class 0 stands at 0 and 100 (mean 50), class 1 at 97. Only the examples at 100 are told wrongly
    // at first, and the second of them sees the weight that the first one left.
    private static void roundsGoExampleByExample() {
        SignTeller x = new SignTeller(0);
        int[][] classAndValue = {{0, 0}, {0, 100}, {0, 100}, {0, 0}, {1, 97}};
        for (int e = 0; e < classAndValue.length; e++) {
            x.example(classAndValue[e][0]);
            x.feature(e, 0, classAndValue[e][1]);
        }
        x.make(1);
        CHECK.sameReal("weight after two wrong ones", x.weight(0, 0), 0.875 * 0.875);
        x.make(10);
        double weight = 1.0;
        for (int e = 0; e < 20; e++) {
            if (3.0 < weight * 50.0) {
                weight = weight * 0.875;
            }
        }
        CHECK.sameReal("weight after ten rounds", x.weight(0, 0), weight);
        x.make(20);
        weight = 1.0;
        for (int e = 0; e < 40; e++) {
            if (3.0 < weight * 50.0) {
                weight = weight * 0.875;
            }
        }
        CHECK.sameReal("weight after twenty rounds", x.weight(0, 0), weight);
        CHECK.same("none is confused behind all rounds", x.confused(0, 1), 0);
        CHECK.same("all are told behind all rounds", x.confused(0, 0), 4);
    }

    // Promise 5

    private static void signTakesTheLowestByte() {
        int[][] valueAndByte = {
            {0, 0}, {1, 1}, {255, 255}, {256, 0}, {300, 44}, {-1, 255}, {-255, 1}, {LOWEST, 0}, {HIGHEST, 255}
        };
        SignTeller x = new SignTeller(3);
        x.example(6);
        x.make(0);
        for (int[] row : valueAndByte) {
            x.sign(3, row[0]);
            CHECK.same("distance of " + row[0], x.distance(0), row[1] * 1000L);
            CHECK.same("tell of " + row[0], x.tell(0), row[1] == 0 ? SignTeller.BLANK : 6);
        }
    }

    private static void signThrows() {
        SignTeller x = new SignTeller(3);
        x.example(6);
        x.make(0);
        x.sign(0, 10);
        int[] noFeatures = {-1, 4, 5, 15, 16, LOWEST, HIGHEST};
        for (int f : noFeatures) {
            CHECK.throwsIndex("sign(" + f + ")", () -> x.sign(f, 99));
        }
        CHECK.same("distance after throws", x.distance(0), 10000);
    }

    // Promise 6

    /** One feature; the classes 2, 7 and 11 stand at 10, 20 and 40. */
    private static SignTeller threeClasses() {
        SignTeller x = new SignTeller(0);
        x.example(11);
        x.example(2);
        x.example(7);
        x.feature(0, 0, 40);
        x.feature(1, 0, 10);
        x.feature(2, 0, 20);
        x.make(0);
        return x;
    }

    private static void tellTellsTheNearestTwo() {
        SignTeller x = threeClasses();
        int[][] signFirstSecond = {{1, 2, 7}, {14, 2, 7}, {16, 7, 2}, {29, 7, 11}, {31, 11, 7}, {255, 11, 7}};
        for (int[] row : signFirstSecond) {
            x.sign(0, row[0]);
            CHECK.same("rank 0 of " + row[0], x.tell(0), row[1]);
            CHECK.same("rank 1 of " + row[0], x.tell(1), row[2]);
        }
        refusedRanks("made", x);
        refusedRanks("not made", new SignTeller(0));
    }

    private static void refusedRanks(String when, SignTeller x) {
        int[] noRanks = {-1, 2, 3, LOWEST, HIGHEST};
        for (int rank : noRanks) {
            CHECK.same("tell(" + rank + "), " + when, x.tell(rank), SignTeller.OUTSIDE);
            CHECK.same("distance(" + rank + "), " + when, x.distance(rank), SignTeller.OUTSIDE);
        }
    }

    private static void tellTakesTheLesserClassOfTwoAlike() {
        SignTeller x = threeClasses();
        x.sign(0, 15);
        CHECK.same("rank 0 of two alike", x.tell(0), 2);
        CHECK.same("rank 1 of two alike", x.tell(1), 7);
        x.sign(0, 30);
        CHECK.same("rank 0 of the upper two alike", x.tell(0), 7);
        CHECK.same("rank 1 of the upper two alike", x.tell(1), 11);
        x.sign(0, 25);
        CHECK.same("rank 0, ranks behind alike", x.tell(0), 7);
        CHECK.same("rank 1, ranks behind alike", x.tell(1), 2);
    }

    private static void tellTellsBlank() {
        SignTeller x = new SignTeller(15);
        x.example(8);
        CHECK.same("blank, nothing made", x.tell(0), SignTeller.STATE);
        x.make(0);
        CHECK.same("blank", x.tell(0), SignTeller.BLANK);
        CHECK.same("blank, no other class", x.tell(1), SignTeller.BLANK);
        for (int f = 0; f < 16; f++) {
            x.sign(f, 1);
            CHECK.same("not blank at " + f, x.tell(0), 8);
            x.sign(f, 0);
            CHECK.same("blank again at " + f, x.tell(0), SignTeller.BLANK);
        }
        x.example(9);
        x.make(0);
        x.margin(1);
        CHECK.same("blank before rejected", x.tell(0), SignTeller.BLANK);
        CHECK.same("rank 1 blank before rejected", x.tell(1), SignTeller.BLANK);
    }

    private static void tellTellsNone() {
        SignTeller x = new SignTeller(0);
        x.example(15);
        x.example(15);
        x.make(3);
        x.sign(0, 3);
        x.margin(100000);
        CHECK.same("the only class", x.tell(0), 15);
        CHECK.same("no other class", x.tell(1), SignTeller.NONE);
        CHECK.same("distance to the only class", x.distance(0), 3000);
        CHECK.same("distance to no other class", x.distance(1), SignTeller.NONE);
    }

    private static void tellTellsRejected() {
        SignTeller x = threeClasses();
        x.sign(0, 13);
        x.margin(4);
        CHECK.same("4 is not below 4", x.tell(0), 2);
        CHECK.same("rank 1, 4 is not below 4", x.tell(1), 7);
        x.margin(5);
        CHECK.same("4 is below 5", x.tell(0), SignTeller.REJECTED);
        CHECK.same("rank 1, 4 is below 5", x.tell(1), SignTeller.REJECTED);
        x.margin(1);
        CHECK.same("told again", x.tell(0), 2);
        x.sign(0, 15);
        CHECK.same("0 is below 1", x.tell(0), SignTeller.REJECTED);
        x.margin(0);
        CHECK.same("0 is not below 0", x.tell(0), 2);
        CHECK.same("rank 1, 0 is not below 0", x.tell(1), 7);
    }

    // Promise 7

    private static void distanceIsCut() {
        SignTeller x = new SignTeller(1);
        for (int e = 0; e < 3; e++) {
            x.example(0);
        }
        x.feature(0, 0, 1);
        x.feature(1, 1, 2);
        x.make(0);
        CHECK.same("distance to 1/3, 2/3", x.distance(0), 1000);
        x.sign(0, 1);
        CHECK.same("distance of 1, 0 to 1/3, 2/3", x.distance(0), 1333);
        x.sign(1, 1);
        CHECK.same("distance of 1, 1 to 1/3, 2/3", x.distance(0), 1000);
        x.sign(0, 0);
        CHECK.same("distance of 0, 1 to 1/3, 2/3", x.distance(0), 666);

        SignTeller weighted = twoClassesConfused();
        weighted.make(1);
        weighted.sign(0, 21);
        weighted.sign(1, 21);
        CHECK.same("weighted distance", weighted.distance(0), 937);
        CHECK.same("weighted distance of rank 1", weighted.distance(1), 10125);
    }

    private static void distanceIgnoresBlankAndRejected() {
        SignTeller x = threeClasses();
        CHECK.same("distance of a blank", x.distance(0), 10000);
        CHECK.same("distance(1) of a blank", x.distance(1), 20000);
        x.sign(0, 30);
        x.margin(100000);
        CHECK.same("rejected", x.tell(0), SignTeller.REJECTED);
        CHECK.same("distance of a rejected one", x.distance(0), 10000);
        CHECK.same("distance(1) of a rejected one", x.distance(1), 10000);
    }

    // Promise 8

    private static void weightThrows() {
        SignTeller x = threeClasses();
        for (int cls : NO_CLASSES) {
            CHECK.throwsIndex("weight(" + cls + ", 0)", () -> x.weight(cls, 0));
        }
        int[] noFeatures = {-1, 1, 2, 15, 16, LOWEST, HIGHEST};
        for (int f : noFeatures) {
            CHECK.throwsIndex("weight(2, " + f + ")", () -> x.weight(2, f));
        }
        CHECK.throwsIndex("weight(-1, -1)", () -> x.weight(-1, -1));
        for (int cls = 0; cls < 16; cls++) {
            boolean has = cls == 2 || cls == 7 || cls == 11;
            CHECK.sameReal("weight of class " + cls, x.weight(cls, 0), has ? 1.0 : 0.0);
        }
    }

    // Promise 9

    // An object of its own for each, for one answers 512 calls and confusedOfTwo makes half of them.
    private static void confusedCountsTheLatestMaking() {
        SignTeller x = twoClassesConfused();
        x.make(0);
        confusedOfTwo("no rounds", x, 1, 1);

        SignTeller more = twoClassesConfused();
        more.make(0);
        more.example(3);
        more.feature(3, 0, 30);
        more.feature(3, 1, 22);
        confusedOfTwo("an example more, not made", more, 1, 1);

        SignTeller cleared = twoClassesConfused();
        cleared.make(0);
        cleared.clear();
        confusedOfTwo("cleared", cleared, 1, 1);

        SignTeller y = twoClassesConfused();
        y.make(20);
        confusedOfTwo("twenty rounds", y, 2, 0);
    }

    private static void confusedOfTwo(String when, SignTeller x, int threeAsThree, int threeAsFive) {
        for (int c = 0; c < 16; c++) {
            for (int n = 0; n < 16; n++) {
                int due = 0;
                if (c == 3 && n == 3) {
                    due = threeAsThree;
                } else if (c == 3 && n == 5) {
                    due = threeAsFive;
                } else if (c == 5 && n == 5) {
                    due = 1;
                }
                CHECK.same(when + ": confused(" + c + ", " + n + ")", x.confused(c, n), due);
            }
        }
    }

    private static void confusedRefuses() {
        SignTeller made = threeClasses();
        SignTeller fresh = new SignTeller(3);
        for (int cls : NO_CLASSES) {
            CHECK.same("confused(" + cls + ", 2)", made.confused(cls, 2), SignTeller.OUTSIDE);
            CHECK.same("confused(2, " + cls + ")", made.confused(2, cls), SignTeller.OUTSIDE);
            CHECK.same("confused, new: " + cls, fresh.confused(cls, cls), SignTeller.OUTSIDE);
        }
    }

    // Promise 10

    private static void marginAnswersWhatItWas() {
        SignTeller x = new SignTeller(0);
        CHECK.same("the first margin", x.margin(7), 0);
        int[] noMargins = {-1, 100001, LOWEST, HIGHEST};
        for (int m : noMargins) {
            CHECK.same("margin(" + m + ")", x.margin(m), SignTeller.OUTSIDE);
        }
        CHECK.same("the margin after refusals", x.margin(100000), 7);
        CHECK.same("the greatest margin", x.margin(0), 100000);
        CHECK.same("the least margin", x.margin(1), 0);
        x.example(0);
        x.make(1);
        x.clear();
        CHECK.same("the margin after make and clear", x.margin(2), 1);
    }

    // Promise 11

    private static void clearKeepsWhatWasMade() {
        SignTeller x = threeClasses();
        x.margin(3);
        x.sign(0, 14);
        CHECK.same("clear", x.clear(), 3);
        CHECK.same("clear again", x.clear(), 0);
        CHECK.same("tell after clear", x.tell(0), SignTeller.REJECTED);
        CHECK.same("the margin after clear", x.margin(0), 3);
        CHECK.same("tell after clear, no margin", x.tell(0), 2);
        CHECK.same("rank 1 after clear", x.tell(1), 7);
        CHECK.same("distance after clear", x.distance(0), 4000);
        CHECK.sameReal("weight after clear", x.weight(11, 0), 1.0);
        CHECK.same("confused after clear", x.confused(11, 11), 1);
        CHECK.throwsIndex("feature after clear", () -> x.feature(0, 0, 1));
        CHECK.throwsArithmetic("make after clear", () -> x.make(0));
        CHECK.same("the first example after clear", x.example(4), 0);
        CHECK.same("tell with an example after clear", x.tell(0), 2);
    }
}
