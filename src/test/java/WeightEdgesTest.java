import java.util.function.Consumer;

/** The sections on weights and calibration and the promises 21 to 25, as far as they name a boundary case. */
public final class WeightEdgesTest extends Edges {
    public static void main(String[] args) {
        atMostEightWeights();
        totalsOfTheStandard();
        onThePanAtFirst();
        loadAndTheMassesOnThePan();
        calibrationFromNoneToAll();
        calibrationByNumbers();
        calibrationOfABalanceAtRest();
        calibrationWidth();
        promise21Ranges();
        promise21OutOfRange();
        promise21Parent();
        promise21Eight();
        promise22NoSuchWeight();
        promise22OnThePan();
        promise22ParentOfAnother();
        promise22NumbersDecrease();
        promise22Remain();
        promise23Range();
        promise23OutOfRange();
        promise23LeastAndGreatest();
        promise24SetOfOneToFive();
        promise24NoSuchSet();
        promise24OutOfRange();
        promise24OnThePan();
        promise24MassGreaterThanThousand();
        promise24NotSoMany();
        promise24TotalVariances();
        promise24ScaleOfReadings();
        promise24ScaleOfPlaces();
        promise24NothingChanges();
        promise25OneAndFive();
        promise25NoSuchSet();
        promise25AsForCalibration();
        promise25NoScale();
        Check.finish();
    }

    private static Consumer<Balance> weights(int... masses) {
        return b -> {
            for (int mass : masses) {
                b.addWeight(mass, 0, 0, -1);
            }
        };
    }

    /** Each one has the one before as its parent, the greatest error and the greatest variance. */
    private static void longestChain(Balance b) {
        for (int i = 0; i < 8; i++) {
            b.addWeight(500, 9, 1000, i - 1);
        }
    }

    private static void properties(Balance b, int weight, int... dues) {
        for (int what = 0; what < dues.length; what++) {
            due(b.weight(weight, what), dues[what]);
        }
    }

    private static void atMostEightWeights() {
        says("Weights", "There are at most 8 weights, numbered from 0.");
        Balance b = new Balance();
        due(b.count(7), 0);
        for (int i = 0; i < 8; i++) {
            due(b.addWeight(1 + i, 0, 0, -1), i);
        }
        due(b.addWeight(9, 0, 0, -1), LIMIT);
        due(b.count(7), 8);
        due(b.weight(0, 0), 1);
        due(b.weight(7, 0), 8);
        due(b.weight(8, 0), INVALID);
    }

    private static void totalsOfTheStandard() {
        says("Weights", "(those of the standard are 0); its depth is 1 plus that of its parent (0 for the standard)");
        Balance b = new Balance();
        b.addWeight(5, -9, 0, -1);
        b.addWeight(5, 0, 0, 0);
        b.addWeight(5, 9, 1000, 1);
        b.addWeight(5, 9, 1000, 0);
        properties(b, 0, 5, -9, 0, -1, 0, -9, 0, 1, 4);
        properties(b, 1, 5, 0, 0, 0, 0, -9, 0, 2, 2);
        properties(b, 2, 5, 9, 1000, 1, 0, 0, 1000, 3, 1);
        properties(b, 3, 5, 9, 1000, 0, 0, 0, 1000, 2, 1);
    }

    private static void onThePanAtFirst() {
        says("Weights", "A weight is on the pan or not, initially not.");
        Balance b = after(weights(1, 1));
        due(b.weight(0, 4), 0);
        due(b.count(8), 0);
        b.put(1);
        b.removeWeight(0);
        due(b.weight(0, 4), 1);
        due(b.addWeight(1, 0, 0, -1), 1);
        due(b.weight(1, 4), 0);
        b.take(0);
        b.removeWeight(1);
        b.addWeight(1, 0, 0, -1);
        due(b.weight(1, 4), 0);
        due(b.count(8), 0);
    }

    private static void loadAndTheMassesOnThePan() {
        says("Weights",
            "The load is not less than the sum of the masses of the weights on the pan; it may be greater.");
        Balance b = after(weights(1, 500));
        b.put(0);
        b.put(1);
        due(b.setLoad(500), IMPOSSIBLE);
        due(b.setLoad(501), 500);
        due(b.setLoad(502), 501);
        due(b.setLoad(1000), 999);
        due(b.setLoad(501), 501);
        due(b.setLoad(500), IMPOSSIBLE);
        due(b.count(0), 501);
    }

    private static void calibrates(Balance b, int set, int... dues) {
        for (int what = 0; what < dues.length; what++) {
            due(b.calibration(set, what), dues[what]);
        }
    }

    private static void calibrationFromNoneToAll() {
        says("Calibration",
            "For each number k of weights on the pan, from 0 to all, ... (for all of them both are the same)");
        Balance b = after(weights(200, 200, 200, 200, 200));
        calibrates(b, 31, 0, 1995, 3995, 5995, 7995, 9995, 5, 2005, 4005, 6005, 8005, 9995, 10, 0, 1);
        calibrates(b, 1, 0, 1995, MISSING, MISSING, MISSING, MISSING, 5, 1995, MISSING, MISSING, MISSING, MISSING, 5, 0,
            1);
        b = after(weights(1));
        b.set(0, 200);
        calibrates(b, 1, 0, 0, MISSING, MISSING, MISSING, MISSING, 0, 0, MISSING, MISSING, MISSING, MISSING, 0, 0, 0);
    }

    private static void calibrationByNumbers() {
        says("Calibration",
            "put on one after the other by ascending numbers, then taken away ... in the opposite order");
        Balance b = after(weights(7, 100, 8, 20, 3));
        b.set(0, 0);
        calibrates(b, 2 + 8 + 16, 0, 1000, 1200, 1230, MISSING, MISSING, 0, 1000, 1200, 1230, MISSING, MISSING, 0, 0,
            1);
        calibrates(b, 1 + 4, 0, 70, 150, MISSING, MISSING, MISSING, 0, 70, 150, MISSING, MISSING, MISSING, 0, 0, 1);
    }

    private static void calibrationOfABalanceAtRest() {
        says("Calibration", "as it would be at the load 0 with no turning points, the creep 0 and the pointer at 0");
        Balance b = after(Edges::busy);
        b.set(0, 0);
        calibrates(b, 5, 0, 400, 1600, MISSING, MISSING, MISSING, 0, 400, 1600, MISSING, MISSING, MISSING, 0, 45, 1);
        b.take(1);
        b.setLoad(0);
        b.set(0, 200);
        due(b.count(6), -1);
        calibrates(b, 2, 0, 600, MISSING, MISSING, MISSING, MISSING, 200, 600, MISSING, MISSING, MISSING, MISSING, 200);
    }

    private static void calibrationWidth() {
        says("Calibration",
            "the width is the greatest difference of both places, the one coming down minus the one going up");
        Balance b = after(weights(500, 500, 300, 200));
        b.set(0, 0);
        due(b.calibration(3, 12), 0);
        b.setPoint(500, 2000);
        calibrates(b, 3, 0, 2000, 10000, MISSING, MISSING, MISSING, 6000, 8000, 10000, MISSING, MISSING, MISSING, 6000);
        calibrates(b, 13, 0, 2000, 6800, 10000, MISSING, MISSING, 6000, 8000, 9200, 10000, MISSING, MISSING, 6000);
        b.setPoint(500, 8000);
        calibrates(b, 3, 0, 8000, 10000, MISSING, MISSING, MISSING, -6000, 2000, 10000, MISSING, MISSING, MISSING, 0);
        b = after(weights(200, 200, 200, 200, 200));
        b.set(0, 0);
        b.setPoint(500, 8000);
        calibrates(b, 31, 0, 3200, 6400, 8400, 9200, 10000, -6000, -2800, 400, 3600, 6800, 10000, 0);
    }

    private static void promise21Ranges() {
        says("Promise 21", "`mass`: 1 to 500 ... `error`: -9 to 9 ... `variance`: 0 to 1000 ... Returns its number");
        Balance b = new Balance();
        due(b.addWeight(1, -9, 0, -1), 0);
        due(b.addWeight(500, 9, 1000, -1), 1);
        properties(b, 0, 1, -9, 0, -1, 0, -9, 0, 1, 1);
        properties(b, 1, 500, 9, 1000, -1, 0, 9, 1000, 1, 1);
    }

    private static void promise21OutOfRange() {
        says("Promise 21", "INVALID_ARGUMENT if an argument is out of range");
        refusedOutside(1, 500, (b, mass) -> b.addWeight(mass, 0, 0, -1));
        refusedOutside(-9, 9, (b, error) -> b.addWeight(1, error, 0, -1));
        refusedOutside(0, 1000, (b, variance) -> b.addWeight(1, 0, variance, -1));
        refusedOutside(-1, 2, (b, parent) -> b.addWeight(1, 0, 0, parent));
        int[][] refused = {{0, 0, 0, -1}, {501, 0, 0, -1}, {1, -10, 0, -1}, {1, 10, 0, -1}, {1, 0, -1, -1},
            {1, 0, 1001, -1}, {1, 0, 0, -2}, {1, 0, 0, 8}};
        for (int[] r : refused) {
            refused(INVALID, WeightEdgesTest::longestChain, b -> b.addWeight(r[0], r[1], r[2], r[3]));
        }
    }

    private static void promise21Parent() {
        says("Promise 21", "`parent`: number of a weight, or -1");
        refused(INVALID, Edges::nothing, b -> b.addWeight(1, 0, 0, 0));
        Balance b = new Balance();
        due(b.addWeight(1, 0, 0, -2), INVALID);
        due(b.addWeight(1, 0, 0, -1), 0);
        due(b.addWeight(1, 0, 0, 1), INVALID);
        due(b.addWeight(1, 0, 0, 0), 1);
        due(b.addWeight(1, 0, 0, 2), INVALID);
        due(b.addWeight(1, 0, 0, 1), 2);
        due(b.weight(0, 3), -1);
        due(b.weight(1, 3), 0);
        due(b.weight(2, 3), 1);
    }

    private static void promise21Eight() {
        says("Promise 21", "LIMIT_REACHED if there are 8");
        refused(LIMIT, WeightEdgesTest::longestChain, b -> b.addWeight(1, 0, 0, -1));
        refused(LIMIT, WeightEdgesTest::longestChain, b -> b.addWeight(500, 9, 1000, 7));
        Balance b = after(weights(1, 2, 3, 4, 5, 6, 7));
        due(b.addWeight(8, 0, 0, 6), 7);
        due(b.addWeight(9, 0, 0, 7), LIMIT);
        due(b.removeWeight(0), 7);
        due(b.addWeight(9, 0, 0, 6), 7);
        due(b.addWeight(10, 0, 0, -1), LIMIT);
    }

    private static void promise22NoSuchWeight() {
        says("Promise 22", "INVALID_ARGUMENT if there is no such weight");
        refused(INVALID, Edges::nothing, b -> b.removeWeight(0));
        refused(INVALID, Edges::nothing, b -> b.removeWeight(-1));
        refusedOutside(0, 2, Balance::removeWeight);
        refused(INVALID, WeightEdgesTest::longestChain, b -> b.removeWeight(8));
        refused(INVALID, WeightEdgesTest::longestChain, b -> b.removeWeight(-1));
    }

    private static void promise22OnThePan() {
        says("Promise 22", "NOT_POSSIBLE if it is on the pan");
        Consumer<Balance> lastOnThePan = b -> {
            weights(1, 1, 1).accept(b);
            b.put(2);
        };
        refused(IMPOSSIBLE, lastOnThePan, b -> b.removeWeight(2));
        Balance b = after(lastOnThePan);
        due(b.removeWeight(0), 2);
        due(b.removeWeight(1), IMPOSSIBLE);
        b.take(1);
        due(b.removeWeight(1), 1);
    }

    private static void promise22ParentOfAnother() {
        says("Promise 22", "NOT_POSSIBLE if it is ... the parent of another one");
        for (int i = 0; i < 7; i++) {
            int weight = i;
            refused(IMPOSSIBLE, WeightEdgesTest::longestChain, b -> b.removeWeight(weight));
        }
        refused(IMPOSSIBLE, Edges::busy, b -> b.removeWeight(0));
        refused(IMPOSSIBLE, Edges::busy, b -> b.removeWeight(1));
        Balance b = after(WeightEdgesTest::longestChain);
        for (int weight = 7; weight >= 0; weight--) {
            due(b.removeWeight(weight), weight);
        }
        b.addWeight(1, 0, 0, -1);
        due(b.removeWeight(0), 0);
    }

    private static void promise22NumbersDecrease() {
        says("Promise 22", "the numbers of the later ones decrease by 1");
        Balance b = new Balance();
        int[] parents = {-1, -1, 1, 1, 2, 0, 4};
        for (int i = 0; i < 7; i++) {
            b.addWeight(10 + i, i, 100 + i, parents[i]);
        }
        b.put(6);
        b.put(5);
        due(b.removeWeight(3), 6);
        properties(b, 0, 10, 0, 100, -1, 0, 0, 100, 1, 2);
        properties(b, 2, 12, 2, 102, 1, 0, 3, 203, 2, 3);
        properties(b, 3, 14, 4, 104, 2, 0, 7, 307, 3, 2);
        properties(b, 4, 15, 5, 105, 0, 1, 5, 205, 2, 1);
        properties(b, 5, 16, 6, 106, 3, 1, 13, 413, 4, 1);
        due(b.weight(6, 0), INVALID);
        due(b.removeWeight(5), IMPOSSIBLE);
        b.take(4);
        due(b.count(0), 16);
        due(b.removeWeight(4), 5);
        due(b.removeWeight(0), 4);
        properties(b, 0, 11, 1, 101, -1, 0, 1, 101, 1, 4);
        properties(b, 1, 12, 2, 102, 0, 0, 3, 203, 2, 3);
        properties(b, 2, 14, 4, 104, 1, 0, 7, 307, 3, 2);
        properties(b, 3, 16, 6, 106, 2, 1, 13, 413, 4, 1);
    }

    private static void promise22Remain() {
        says("Promise 22", "Returns the number of weights that remain");
        Balance b = after(weights(1, 2, 3, 4, 5, 6, 7, 8));
        due(b.removeWeight(7), 7);
        due(b.removeWeight(0), 6);
        due(b.weight(0, 0), 2);
        due(b.weight(5, 0), 7);
        for (int left = 5; left >= 0; left--) {
            due(b.removeWeight(left), left);
        }
        due(b.count(7), 0);
        due(b.removeWeight(0), INVALID);
    }

    private static void promise23Range() {
        says("Promise 23", "`what`: 0: its mass; ... 8: the number of weights that are traced to it, itself included");
        Balance b = after(Edges::busy);
        properties(b, 0, 100, 2, 10, -1, 0, 2, 10, 1, 3);
        properties(b, 1, 200, -3, 20, 0, 1, -1, 30, 2, 2);
        properties(b, 2, 300, 9, 5, 1, 0, 8, 35, 3, 1);
    }

    private static void promise23OutOfRange() {
        says("Promise 23", "INVALID_ARGUMENT if there is no such weight or what is out of range");
        refusedOutside(0, 2, (b, weight) -> b.weight(weight, 0));
        refusedOutside(0, 2, (b, weight) -> b.weight(weight, 8));
        refusedOutside(0, 8, (b, what) -> b.weight(0, what));
        refused(INVALID, Edges::nothing, b -> b.weight(0, 0));
        refused(INVALID, Edges::nothing, b -> b.weight(-1, 3));
        refused(INVALID, WeightEdgesTest::longestChain, b -> b.weight(8, 0));
        refused(INVALID, WeightEdgesTest::longestChain, b -> b.weight(7, 9));
        refused(INVALID, WeightEdgesTest::longestChain, b -> b.weight(7, -1));
    }

    private static void promise23LeastAndGreatest() {
        says("Promise 23", "5: its total error; 6: its total variance; 7: its depth [of the longest chain]");
        Balance b = after(WeightEdgesTest::longestChain);
        properties(b, 7, 500, 9, 1000, 6, 0, 72, 8000, 8, 1);
        properties(b, 0, 500, 9, 1000, -1, 0, 9, 1000, 1, 8);
        b = new Balance();
        for (int i = 0; i < 8; i++) {
            b.addWeight(1, -9, 0, i - 1);
        }
        properties(b, 7, 1, -9, 0, 6, 0, -72, 0, 8, 1);
        b = new Balance();
        for (int i = 0; i < 8; i++) {
            b.addWeight(1, -9, 1, Math.min(i - 1, 0));
        }
        properties(b, 7, 1, -9, 1, 0, 0, -18, 2, 2, 1);
        properties(b, 0, 1, -9, 1, -1, 0, -9, 1, 1, 8);
    }

    private static void promise24SetOfOneToFive() {
        says("Promise 24", "`set`: a set of 1 to 5 weights, none of which is on the pan");
        Balance b = after(weights(1, 2, 3, 4, 5, 6, 7, 8));
        due(b.calibration(0, 14), INVALID);
        due(b.calibration(1, 14), 1);
        due(b.calibration(128, 14), 1);
        due(b.calibration(31, 14), 1);
        due(b.calibration(248, 14), 1);
        due(b.calibration(248, 5), 295);
        due(b.calibration(63, 14), INVALID);
        due(b.calibration(252, 14), INVALID);
        due(b.calibration(255, 14), INVALID);
        due(b.calibration(256, 14), INVALID);
    }

    private static void promise24NoSuchSet() {
        says("Promise 24", "INVALID_ARGUMENT if set is no such set of numbers of weights");
        refusedOutside(1, 7, (b, set) -> b.calibration(set, 0));
        refused(INVALID, Edges::nothing, b -> b.calibration(1, 0));
        int[] none = {0, 4, 5, 7, 8, 1 << 8, 1 << 16, 1 << 30, 1 << 31, (1 << 31) + 1, -1, -2, Integer.MAX_VALUE};
        for (int set : none) {
            refused(INVALID, weights(1, 2), b -> b.calibration(set, 14));
        }
        for (int set : new int[] {0, 63, 126, 252, 255, 256, 257, (1 << 31) + 1, -1}) {
            refused(INVALID, weights(1, 2, 3, 4, 5, 6, 7, 8), b -> b.calibration(set, 14));
        }
    }

    private static void promise24OutOfRange() {
        says("Promise 24", "INVALID_ARGUMENT if ... what is out of range");
        for (int what : outside(0, 14)) {
            refused(INVALID, weights(500, 500, 1), b -> b.calibration(1, what));
            refused(INVALID, weights(500, 500, 1), b -> b.calibration(7, what));
            refused(INVALID, Edges::busy, b -> b.calibration(2, what));
        }
    }

    private static void promise24OnThePan() {
        says("Promise 24", "NOT_POSSIBLE if one of them is on the pan");
        for (int set : new int[] {2, 3, 6, 7}) {
            for (int what : new int[] {0, 5, 6, 11, 12, 13, 14}) {
                refused(IMPOSSIBLE, Edges::busy, b -> b.calibration(set, what));
            }
        }
        refused(INVALID, Edges::busy, b -> b.calibration(10, 0));
        Balance b = after(Edges::busy);
        due(b.calibration(5, 14), 1);
        due(b.calibration(1, 0), 0);
        due(b.calibration(4, 0), 0);
    }

    private static void promise24MassGreaterThanThousand() {
        says("Promise 24", "NOT_POSSIBLE if ... their mass is greater than 1000");
        Consumer<Balance> heavy = weights(500, 499, 1, 2, 500);
        for (int set : new int[] {1 + 2 + 8, 1 + 16 + 4, 1 + 2 + 4 + 8, 31}) {
            for (int what : new int[] {0, 5, 11, 12, 13, 14}) {
                refused(IMPOSSIBLE, heavy, b -> b.calibration(set, what));
            }
        }
        Balance b = after(heavy);
        due(b.calibration(1 + 2 + 4, 14), 1);
        due(b.calibration(1 + 2 + 4, 3), 9995);
        due(b.calibration(1 + 16, 14), 1);
        due(b.calibration(1 + 2, 14), 1);
        b.setLoad(1000);
        due(b.calibration(1 + 16, 14), 1);
    }

    private static void promise24NotSoMany() {
        says("Promise 24", "`what`: 0 to 5 ... 6 to 11 ... NOT_FOUND for 0 to 11 if there are not so many weights");
        for (int number = 1; number <= 5; number++) {
            int set = (1 << number) - 1;
            Consumer<Balance> before = weights(1, 2, 3, 4, 5);
            for (int what = number + 1; what <= 5; what++) {
                int asked = what;
                refused(MISSING, before, b -> b.calibration(set, asked));
                refused(MISSING, before, b -> b.calibration(set, asked + 6));
            }
            Balance b = after(before);
            due(b.calibration(set, 0), 0);
            due(b.calibration(set, 6), 5);
            due(b.calibration(set, number), 5 * number * (number + 1) - 5);
            due(b.calibration(set, number + 6), 5 * number * (number + 1) - 5);
        }
    }

    private static void promise24TotalVariances() {
        says("Promise 24", "13: the sum of the total variances of all weights of the set");
        Balance b = new Balance();
        for (int i = 0; i < 8; i++) {
            b.addWeight(1, 0, 1000, i - 1);
        }
        due(b.calibration(248, 13), 30000);
        due(b.calibration(1, 13), 1000);
        due(b.calibration(128, 13), 8000);
        due(after(weights(1)).calibration(1, 13), 0);
    }

    private static Balance withErrors(int... massesAndErrors) {
        Balance b = new Balance();
        for (int i = 0; i + 1 < massesAndErrors.length; i += 2) {
            b.addWeight(massesAndErrors[i], massesAndErrors[i + 1], 0, -1);
        }
        return b;
    }

    private static void promise24ScaleOfReadings() {
        says("Promise 24",
            "14: 1 if the new breaks are a scale (... readings strictly increasing and in their ranges)");
        due(withErrors(8, -9).calibration(1, 14), 0);
        due(withErrors(9, -9).calibration(1, 14), 0);
        due(withErrors(10, -9).calibration(1, 14), 1);
        due(withErrors(100, 0, 9, -9, 100, 0).calibration(7, 14), 0);
        due(withErrors(100, 0, 8, -9, 100, 0).calibration(7, 14), 0);
        due(withErrors(100, 0, 10, -9, 100, 0).calibration(7, 14), 1);
        due(withErrors(500, 9, 490, 0).calibration(3, 14), 1);
        due(withErrors(500, 9, 491, 0).calibration(3, 14), 1);
        due(withErrors(500, 9, 492, 0).calibration(3, 14), 0);
        due(withErrors(500, 0, 500, 0).calibration(3, 14), 1);
        due(withErrors(500, 0, 500, 1).calibration(3, 14), 0);
    }

    private static int isScale(int deadZone, int firstExtension, int mass) {
        Balance b = after(weights(mass));
        b.set(0, deadZone);
        b.setPoint(1, firstExtension);
        return b.calibration(1, 14);
    }

    /** With (1, p) on the curve and a weight of 500 the place coming down to nothing is about -p. */
    private static void promise24ScaleOfPlaces() {
        says("Promise 24",
            "14: 1 if the new breaks are a scale (both places ... strictly increasing and in their ranges)");
        due(isScale(0, 2008, 500), 1);
        due(isScale(0, 2009, 500), 0);
        due(isScale(0, 2010, 500), 0);
        due(isScale(0, 1, 1), 1);
        due(isScale(1, 1, 1), 0);
        due(isScale(200, 200, 1), 0);
        due(isScale(200, 201, 1), 1);
        Balance b = after(weights(100, 1, 2));
        b.setPoint(1000, 500);
        due(b.calibration(1 + 2, 1), 45);
        due(b.calibration(1 + 2, 2), 45);
        due(b.calibration(1 + 2, 14), 0);
        due(b.calibration(1 + 4, 2), 46);
        due(b.calibration(1 + 4, 14), 1);
        b = after(weights(500, 500));
        b.set(0, 0);
        b.setPoint(1000, 20000);
        due(b.calibration(3, 2), 20000);
        due(b.calibration(3, 14), 1);
    }

    private static void promise24NothingChanges() {
        says("Promise 24", "Returns something of a calibration. Nothing changes.");
        for (int what = 0; what <= 14; what++) {
            int asked = what;
            int[] dues = {0, 393, 1593, MISSING, MISSING, MISSING, 7, 407, 1593, MISSING, MISSING, MISSING, 14, 45, 1};
            refused(dues[what], Edges::busy, b -> b.calibration(5, asked));
        }
    }

    private static void promise25OneAndFive() {
        says("Promise 25", "`set`: a set of 1 to 5 weights ... Returns the number of breaks");
        Balance b = after(weights(1, 2, 3, 4, 5, 6, 7, 8));
        due(b.adopt(248), 6);
        int[][] dues = {{2, 0}, {40, 4}, {90, 9}, {150, 15}, {220, 22}, {295, 30}};
        for (int i = 0; i < 6; i++) {
            due(b.entry(2, i), dues[i][0]);
            due(b.entry(3, i), dues[i][1]);
        }
        due(b.setBreak(1, 0), IMPOSSIBLE);
        due(b.setBreak(296, 31), LIMIT);
        due(b.adopt(128), 2);
        due(b.entry(2, 0), 2);
        due(b.entry(3, 0), 0);
        due(b.entry(2, 1), 75);
        due(b.entry(3, 1), 8);
        due(b.entry(2, 2), MISSING);
        due(b.removeBreak(0), IMPOSSIBLE);
        due(b.adopt(31), 6);
    }

    private static void promise25NoSuchSet() {
        says("Promise 25", "INVALID_ARGUMENT as for calibration");
        refusedOutside(1, 7, Balance::adopt);
        refused(INVALID, Edges::nothing, b -> b.adopt(1));
        for (int set : new int[] {0, 63, 252, 255, 256, 257, (1 << 31) + 1, -1}) {
            refused(INVALID, weights(1, 2, 3, 4, 5, 6, 7, 8), b -> b.adopt(set));
        }
        refused(INVALID, b -> {
            weights(500, 500, 500, 1, 1, 1).accept(b);
            b.put(0);
        }, b -> b.adopt(63));
    }

    private static void promise25AsForCalibration() {
        says("Promise 25", "NOT_POSSIBLE as for calibration");
        for (int set : new int[] {2, 3, 6, 7}) {
            refused(IMPOSSIBLE, Edges::busy, b -> b.adopt(set));
        }
        refused(IMPOSSIBLE, weights(500, 499, 2), b -> b.adopt(7));
        due(after(weights(500, 499, 1)).adopt(7), 4);
        Balance b = after(Edges::busy);
        due(b.adopt(5), 3);
        due(b.entry(2, 0), 3);
        due(b.entry(2, 1), 400);
        due(b.entry(3, 1), 102);
        due(b.entry(2, 2), 1593);
        due(b.entry(3, 2), 411);
    }

    private static void promise25NoScale() {
        says("Promise 25", "and if the new breaks are no scale");
        refused(IMPOSSIBLE, b -> b.addWeight(9, -9, 0, -1), b -> b.adopt(1));
        refused(IMPOSSIBLE, b -> {
            b.addWeight(500, 9, 0, -1);
            b.addWeight(492, 0, 0, -1);
        }, b -> b.adopt(3));
        refused(IMPOSSIBLE, b -> {
            b.addWeight(20, 0, 0, -1);
            b.set(0, 200);
        }, b -> b.adopt(1));
        Balance b = withErrors(500, 9, 491, 0);
        due(b.adopt(3), 3);
        due(b.entry(3, 2), 1000);
        b = withErrors(10, -9);
        due(b.adopt(1), 2);
        due(b.entry(3, 1), 1);
    }
}
