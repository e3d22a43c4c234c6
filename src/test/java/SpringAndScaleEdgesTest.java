/** The section on the scale and the sentences of the promises 12 to 20, as far as they name a boundary case. */
public final class SpringAndScaleEdgesTest extends Edges {
    public static void main(String[] args) {
        scaleOfTwoToSixBreaks();
        scaleStrictlyIncreasing();
        readingBetweenTwoBreaks();
        readingBelowTheFirstBreak();
        readingAboveTheLastBreak();
        scaleAtFirst();
        promise12Ranges();
        promise12OutOfRange();
        promise12InPlaceOfOne();
        promise12OnlyUnturnedAtZero();
        promise12NotRising();
        promise12NinePoints();
        promise13Range();
        promise13OutOfRange();
        promise13OnlyUnturnedAtZero();
        promise13NoPoint();
        promise14Ranges();
        promise14OutOfRange();
        promise15Ranges();
        promise15OutOfRange();
        promise15InPlaceOfOne();
        promise15NotRising();
        promise15SevenBreaks();
        promise16FirstAndLast();
        promise16NoSuchBreak();
        promise16Two();
        promise17FirstAndLast();
        promise17OutOfRange();
        promise17NotSoMany();
        promise18Range();
        promise18OutOfRange();
        promise19FirstAndLast();
        promise19Negative();
        promise19NotSoMany();
        promise19SteepestAndFlattest();
        promise20Ranges();
        promise20OutOfRange();
        Check.finish();
    }

    /** Breaks at 0, 1000, ... 4000 and 10000. */
    private static void sixBreaks(Balance b) {
        for (int i = 1; i <= 4; i++) {
            b.setBreak(i * 1000, i * 10);
        }
    }

    /** Points at the loads 0, 100, ... 600 and 1000. */
    private static void eightPoints(Balance b) {
        for (int i = 1; i <= 6; i++) {
            b.setPoint(i * 100, i * 10);
        }
    }

    private static void atZeroWithATurn(Balance b) {
        b.setPoint(500, 2000);
        b.setLoad(1);
        b.setLoad(0);
    }

    private static void atOne(Balance b) {
        b.setPoint(500, 2000);
        b.setLoad(1);
    }

    private static void scaleOfTwoToSixBreaks() {
        says("Scale", "The scale has 2 to 6 breaks");
        Balance b = new Balance();
        due(b.count(12), 2);
        due(b.removeBreak(0), IMPOSSIBLE);
        due(b.setBreak(1, 1), 3);
        due(b.setBreak(2, 2), 4);
        due(b.setBreak(3, 3), 5);
        due(b.setBreak(4, 4), 6);
        due(b.setBreak(5, 5), LIMIT);
        due(b.count(12), 6);
        due(b.entry(2, 5), 10000);
        due(b.entry(2, 4), 4);
        for (int left = 5; left >= 2; left--) {
            due(b.removeBreak(0), left);
        }
        due(b.removeBreak(1), IMPOSSIBLE);
        due(b.count(12), 2);
    }

    private static void scaleStrictlyIncreasing() {
        says("Scale",
            "both strictly increasing from break to break (places from -1000 to 30000, readings from 0 to 1000)");
        Balance b = new Balance();
        due(b.setBreak(-1000, 0), IMPOSSIBLE);
        due(b.setBreak(0, 1), 2);
        due(b.setBreak(-1000, 0), 3);
        due(b.setBreak(30000, 1000), IMPOSSIBLE);
        due(b.setBreak(10000, 999), 3);
        due(b.setBreak(30000, 1000), 4);
        due(b.setBreak(-1001, 0), INVALID);
        due(b.setBreak(30001, 1000), INVALID);
        due(b.setBreak(30000, 1001), INVALID);
        due(b.setBreak(-1000, -1), INVALID);
        due(b.entry(2, 0), -1000);
        due(b.entry(3, 0), 0);
        due(b.entry(2, 3), 30000);
        due(b.entry(3, 3), 1000);
    }

    private static void readings(Balance b, int[][] dues) {
        for (int[] d : dues) {
            due(b.readingAt(d[0]), d[1]);
        }
    }

    private static void readingBetweenTwoBreaks() {
        says("Scale", "The reading at a place between two breaks is taken between them, as on the curve");
        Balance b = new Balance();
        b.setBreak(0, 10);
        b.setBreak(-100, 5);
        b.setBreak(300, 20);
        readings(b, new int[][] {{-100, 5}, {-99, 5}, {-81, 5}, {-80, 6}, {-1, 9}, {0, 10}, {1, 10}, {29, 10}, {30, 11},
            {299, 19}, {300, 20}, {301, 20}, {310, 21}, {9999, 999}, {10000, 1000}});
    }

    private static void readingBelowTheFirstBreak() {
        says("Scale", "below the first break it is that of the first one");
        Balance b = new Balance();
        b.setBreak(0, 7);
        readings(b, new int[][] {{0, 7}, {-1, 7}, {-1000, 7}});
        b.setPoint(1000, 20000);
        b.setPoint(1, 19000);
        b.setLoad(1000);
        due(b.setLoad(0), 7);
        due(b.count(3), -18993);
        due(b.count(4), 7);
    }

    private static void readingAboveTheLastBreak() {
        says("Scale", "above the last break that of the last one");
        Balance b = new Balance();
        b.setBreak(10000, 993);
        readings(b, new int[][] {{9999, 992}, {10000, 993}, {10001, 993}, {30000, 993}});
        b.setPoint(1000, 20000);
        b.set(0, 0);
        due(b.setLoad(500), 993);
        due(b.setLoad(501), 993);
        due(b.setLoad(1000), 993);
        due(b.count(4), 993);
    }

    private static void scaleAtFirst() {
        says("Scale", "Initially the breaks are (0, 0) and (10000, 1000).");
        Balance b = new Balance();
        due(b.count(12), 2);
        due(b.entry(2, 0), 0);
        due(b.entry(3, 0), 0);
        due(b.entry(2, 1), 10000);
        due(b.entry(3, 1), 1000);
        due(b.entry(2, 2), MISSING);
    }

    private static void promise12Ranges() {
        says("Promise 12", "`load`: 1 to 1000 ... `extension`: 1 to 20000 ... Returns the number of points");
        Balance b = new Balance();
        due(b.setPoint(1, 1), 3);
        due(b.entry(0, 1), 1);
        due(b.entry(1, 1), 1);
        due(b.setPoint(1000, 20000), 3);
        due(b.setPoint(999, 19999), 4);
        due(b.setPoint(2, 2), 5);
        due(b.entry(1, 4), 20000);
        b = new Balance();
        due(b.setPoint(1000, 1), 2);
        due(b.entry(1, 1), 1);
    }

    private static void promise12OutOfRange() {
        says("Promise 12", "INVALID_ARGUMENT if an argument is out of range");
        refusedOutside(1, 1000, (b, load) -> b.setPoint(load, 5000));
        refusedOutside(1, 20000, (b, extension) -> b.setPoint(400, extension));
        for (int load : new int[] {0, 1001}) {
            refused(INVALID, SpringAndScaleEdgesTest::eightPoints, b -> b.setPoint(load, 65));
            refused(INVALID, SpringAndScaleEdgesTest::atZeroWithATurn, b -> b.setPoint(load, 2000));
        }
        for (int extension : new int[] {0, 20001}) {
            refused(INVALID, SpringAndScaleEdgesTest::eightPoints, b -> b.setPoint(650, extension));
            refused(INVALID, SpringAndScaleEdgesTest::atOne, b -> b.setPoint(1000, extension));
        }
    }

    private static void promise12InPlaceOfOne() {
        says("Promise 12", "in place of one with the same load");
        Balance b = after(SpringAndScaleEdgesTest::eightPoints);
        due(b.setPoint(100, 19), 8);
        due(b.entry(1, 1), 19);
        due(b.setPoint(100, 1), 8);
        due(b.entry(1, 1), 1);
        due(b.setPoint(600, 9999), 8);
        due(b.entry(1, 6), 9999);
        due(b.setPoint(600, 51), 8);
        due(b.setPoint(1000, 52), 8);
        due(b.entry(1, 7), 52);
        due(b.entry(0, 7), 1000);
        due(b.setPoint(1000, 52), 8);
    }

    private static void promise12OnlyUnturnedAtZero() {
        says("Promise 12",
            "The balance must be at the load 0 without turning points. ... NOT_POSSIBLE if the balance is not so");
        refused(IMPOSSIBLE, SpringAndScaleEdgesTest::atOne, b -> b.setPoint(600, 3000));
        refused(IMPOSSIBLE, SpringAndScaleEdgesTest::atOne, b -> b.setPoint(500, 2000));
        refused(IMPOSSIBLE, SpringAndScaleEdgesTest::atZeroWithATurn, b -> b.setPoint(600, 3000));
        refused(IMPOSSIBLE, Edges::busy, b -> b.setPoint(600, 3000));
        Balance b = after(SpringAndScaleEdgesTest::atZeroWithATurn);
        b.zero();
        due(b.setPoint(600, 3000), 4);
        b.setLoad(600);
        due(b.count(1), 3000);
        b.undo();
        due(b.setPoint(600, 3001), 4);
    }

    private static void promise12NotRising() {
        says("Promise 12", "NOT_POSSIBLE if ... extensions would not be strictly increasing");
        int[][] refused = {{100, 20}, {100, 21}, {150, 10}, {150, 20}, {99, 10}, {600, 50}, {600, 10000}, {1000, 60},
            {300, 20}, {300, 40}, {50, 10}, {999, 10000}, {700, 60}};
        for (int[] r : refused) {
            refused(IMPOSSIBLE, SpringAndScaleEdgesTest::eightPoints, b -> b.setPoint(r[0], r[1]));
        }
        int[][] accepted = {{100, 19}, {100, 1}, {600, 51}, {600, 9999}, {1000, 61}, {300, 21}, {300, 39}};
        for (int[] a : accepted) {
            due(after(SpringAndScaleEdgesTest::eightPoints).setPoint(a[0], a[1]), 8);
        }
        Balance b = new Balance();
        due(b.setPoint(500, 10000), IMPOSSIBLE);
        due(b.setPoint(500, 9999), 3);
        due(b.setPoint(400, 9999), IMPOSSIBLE);
        due(b.setPoint(400, 9998), 4);
        due(b.setPoint(450, 9998), IMPOSSIBLE);
    }

    private static void promise12NinePoints() {
        says("Promise 12", "LIMIT_REACHED if there would be 9 points");
        int[][] refused = {{50, 5}, {1, 1}, {150, 15}, {601, 61}, {999, 9999}};
        for (int[] r : refused) {
            refused(LIMIT, SpringAndScaleEdgesTest::eightPoints, b -> b.setPoint(r[0], r[1]));
        }
        Balance b = after(SpringAndScaleEdgesTest::eightPoints);
        due(b.count(11), 8);
        due(b.setPoint(300, 31), 8);
        due(b.removePoint(600), 60);
        due(b.setPoint(999, 9999), 8);
        due(b.setPoint(998, 9998), LIMIT);
    }

    private static void promise13Range() {
        says("Promise 13", "`load`: 1 to 999 ... Returns its extension");
        Balance b = new Balance();
        b.setPoint(1, 1);
        b.setPoint(2, 2);
        b.setPoint(999, 9999);
        due(b.removePoint(1), 1);
        due(b.removePoint(999), 9999);
        due(b.removePoint(2), 2);
        due(b.count(11), 2);
        due(b.entry(0, 1), 1000);
        due(b.entry(1, 1), 10000);
    }

    private static void promise13OutOfRange() {
        says("Promise 13", "INVALID_ARGUMENT if load is out of range");
        refusedOutside(1, 999, Balance::removePoint);
        refused(INVALID, SpringAndScaleEdgesTest::eightPoints, b -> b.removePoint(0));
        refused(INVALID, SpringAndScaleEdgesTest::eightPoints, b -> b.removePoint(1000));
    }

    private static void promise13OnlyUnturnedAtZero() {
        says("Promise 13",
            "The balance must be at the load 0 without turning points. ... NOT_POSSIBLE if the balance is not so");
        refused(IMPOSSIBLE, SpringAndScaleEdgesTest::atOne, b -> b.removePoint(500));
        refused(IMPOSSIBLE, SpringAndScaleEdgesTest::atOne, b -> b.removePoint(499));
        refused(IMPOSSIBLE, SpringAndScaleEdgesTest::atZeroWithATurn, b -> b.removePoint(500));
        refused(IMPOSSIBLE, SpringAndScaleEdgesTest::atZeroWithATurn, b -> b.removePoint(501));
        refused(IMPOSSIBLE, Edges::busy, b -> b.removePoint(500));
        Balance b = after(SpringAndScaleEdgesTest::atZeroWithATurn);
        b.zero();
        due(b.removePoint(500), 2000);
    }

    private static void promise13NoPoint() {
        says("Promise 13", "NOT_FOUND if there is no point with this load");
        for (int load : new int[] {1, 500, 999}) {
            refused(MISSING, Edges::nothing, b -> b.removePoint(load));
        }
        for (int load : new int[] {1, 99, 101, 299, 301, 599, 601, 999}) {
            refused(MISSING, SpringAndScaleEdgesTest::eightPoints, b -> b.removePoint(load));
        }
        Balance b = after(SpringAndScaleEdgesTest::eightPoints);
        due(b.removePoint(300), 30);
        due(b.removePoint(300), MISSING);
    }

    private static void promise14Ranges() {
        says("Promise 14", "`which`: 0 for V, 1 for F ... `load`: 0 to 1000");
        Balance b = new Balance();
        b.setPoint(500, 2000);
        due(b.curve(0, 0), 0);
        due(b.curve(1, 0), 0);
        due(b.curve(0, 1), 4);
        due(b.curve(1, 1), 4);
        due(b.curve(0, 999), 9984);
        due(b.curve(1, 999), 3996);
        due(b.curve(0, 1000), 10000);
        due(b.curve(1, 1000), 4000);
        b.setLoad(1000);
        due(b.curve(0, 0), 0);
        due(b.curve(0, 1000), 10000);
    }

    private static void promise14OutOfRange() {
        says("Promise 14", "INVALID_ARGUMENT if an argument is out of range");
        refusedOutside(0, 1, (b, which) -> b.curve(which, 500));
        refusedOutside(0, 1000, (b, load) -> b.curve(0, load));
        refusedOutside(0, 1000, (b, load) -> b.curve(1, load));
    }

    private static void promise15Ranges() {
        says("Promise 15", "`place`: -1000 to 30000 ... `reading`: 0 to 1000 ... Returns the number of breaks");
        Balance b = new Balance();
        due(b.setBreak(0, 2), 2);
        due(b.setBreak(10000, 998), 2);
        due(b.setBreak(-1000, 0), 3);
        due(b.setBreak(30000, 1000), 4);
        due(b.setBreak(-999, 1), 5);
        due(b.setBreak(29999, 999), 6);
        due(b.readingAt(-999), 1);
        due(b.readingAt(29999), 999);
    }

    private static void promise15OutOfRange() {
        says("Promise 15", "INVALID_ARGUMENT if an argument is out of range");
        refusedOutside(-1000, 30000, (b, place) -> b.setBreak(place, 500));
        refusedOutside(0, 1000, (b, reading) -> b.setBreak(4000, reading));
        refused(INVALID, SpringAndScaleEdgesTest::sixBreaks, b -> b.setBreak(30001, 35));
        refused(INVALID, SpringAndScaleEdgesTest::sixBreaks, b -> b.setBreak(-1001, 0));
        refused(INVALID, SpringAndScaleEdgesTest::sixBreaks, b -> b.setBreak(3500, -1));
        refused(INVALID, SpringAndScaleEdgesTest::sixBreaks, b -> b.setBreak(10000, 1001));
    }

    private static void promise15InPlaceOfOne() {
        says("Promise 15", "in place of one with the same place");
        Balance b = after(SpringAndScaleEdgesTest::sixBreaks);
        due(b.setBreak(0, 9), 6);
        due(b.entry(3, 0), 9);
        due(b.setBreak(0, 0), 6);
        due(b.setBreak(4000, 31), 6);
        due(b.setBreak(4000, 999), 6);
        due(b.entry(3, 4), 999);
        due(b.setBreak(10000, 1000), 6);
        due(b.entry(3, 5), 1000);
        due(b.entry(2, 5), 10000);
    }

    private static void promise15NotRising() {
        says("Promise 15", "NOT_POSSIBLE if readings would not be strictly increasing");
        int[][] refused = {{0, 10}, {0, 11}, {1000, 0}, {1000, 20}, {-1, 0}, {-1000, 1}, {4000, 30}, {4000, 1000},
            {10000, 40}, {10001, 1000}, {30000, 999}, {500, 0}, {500, 10}, {5000, 40}, {5000, 1000}};
        for (int[] r : refused) {
            refused(IMPOSSIBLE, SpringAndScaleEdgesTest::sixBreaks, b -> b.setBreak(r[0], r[1]));
        }
        int[][] accepted = {{0, 9}, {1000, 1}, {1000, 19}, {4000, 31}, {4000, 999}, {10000, 41}};
        for (int[] a : accepted) {
            due(after(SpringAndScaleEdgesTest::sixBreaks).setBreak(a[0], a[1]), 6);
        }
        refused(IMPOSSIBLE, Edges::nothing, b -> b.setBreak(-1, 0));
        refused(IMPOSSIBLE, Edges::nothing, b -> b.setBreak(10001, 1000));
        refused(IMPOSSIBLE, Edges::busy, b -> b.setBreak(4999, 600));
        refused(IMPOSSIBLE, Edges::busy, b -> b.setBreak(5001, 600));
    }

    private static void promise15SevenBreaks() {
        says("Promise 15", "LIMIT_REACHED if there would be 7 breaks");
        int[][] refused = {{1, 1}, {500, 5}, {4001, 41}, {9999, 999}};
        for (int[] r : refused) {
            refused(LIMIT, SpringAndScaleEdgesTest::sixBreaks, b -> b.setBreak(r[0], r[1]));
        }
        refused(LIMIT, b -> {
            sixBreaks(b);
            b.setBreak(0, 1);
        }, b -> b.setBreak(-1, 0));
        refused(LIMIT, b -> {
            sixBreaks(b);
            b.setBreak(10000, 999);
        }, b -> b.setBreak(10001, 1000));
        Balance b = after(SpringAndScaleEdgesTest::sixBreaks);
        due(b.setBreak(2000, 21), 6);
        due(b.removeBreak(0), 5);
        due(b.setBreak(0, 0), 6);
        due(b.setBreak(1, 1), LIMIT);
    }

    private static void promise16FirstAndLast() {
        says("Promise 16", "`index`: 0 for the first one, and so on ... Returns the number of breaks that remain");
        Balance b = after(SpringAndScaleEdgesTest::sixBreaks);
        due(b.removeBreak(5), 5);
        due(b.entry(2, 4), 4000);
        due(b.removeBreak(0), 4);
        due(b.entry(2, 0), 1000);
        due(b.removeBreak(3), 3);
        due(b.removeBreak(1), 2);
        due(b.entry(2, 0), 1000);
        due(b.entry(2, 1), 3000);
        due(b.entry(3, 1), 30);
        due(b.entry(2, 2), MISSING);
    }

    private static void promise16NoSuchBreak() {
        says("Promise 16", "INVALID_ARGUMENT if there is no such break");
        refusedOutside(0, 2, Balance::removeBreak);
        refused(INVALID, Edges::nothing, b -> b.removeBreak(2));
        refused(INVALID, SpringAndScaleEdgesTest::sixBreaks, b -> b.removeBreak(6));
        refused(INVALID, SpringAndScaleEdgesTest::sixBreaks, b -> b.removeBreak(-1));
    }

    private static void promise16Two() {
        says("Promise 16", "NOT_POSSIBLE if there are 2");
        refused(IMPOSSIBLE, Edges::nothing, b -> b.removeBreak(0));
        refused(IMPOSSIBLE, Edges::nothing, b -> b.removeBreak(1));
        Balance b = after(Edges::busy);
        due(b.count(12), 3);
        due(b.removeBreak(2), 2);
        due(b.removeBreak(1), IMPOSSIBLE);
        due(b.removeBreak(2), INVALID);
    }

    private static void promise17FirstAndLast() {
        says("Promise 17", "0: the load of a point; ... 3: its reading ... `index`: 0 for the first one, and so on");
        Balance b = after(c -> {
            eightPoints(c);
            sixBreaks(c);
        });
        due(b.entry(0, 0), 0);
        due(b.entry(1, 0), 0);
        due(b.entry(2, 0), 0);
        due(b.entry(3, 0), 0);
        due(b.entry(0, 6), 600);
        due(b.entry(1, 6), 60);
        due(b.entry(0, 7), 1000);
        due(b.entry(1, 7), 10000);
        due(b.entry(2, 4), 4000);
        due(b.entry(3, 4), 40);
        due(b.entry(2, 5), 10000);
        due(b.entry(3, 5), 1000);
    }

    private static void promise17OutOfRange() {
        says("Promise 17", "INVALID_ARGUMENT if what is out of range or index is negative");
        refusedOutside(0, 3, (b, what) -> b.entry(what, 0));
        refusedOutside(0, 3, (b, what) -> b.entry(what, 9));
        for (int index : new int[] {-1, Integer.MIN_VALUE, -65536}) {
            for (int what = 0; what <= 3; what++) {
                int entry = what;
                refused(INVALID, Edges::nothing, b -> b.entry(entry, index));
                refused(INVALID, Edges::busy, b -> b.entry(entry, index));
            }
        }
    }

    private static void promise17NotSoMany() {
        says("Promise 17", "NOT_FOUND if there are not so many");
        int[] first = {2, 2, 2, 2};
        int[] most = {8, 8, 6, 6};
        for (int what = 0; what <= 3; what++) {
            int entry = what;
            for (int more : new int[] {0, 1, 65536, Integer.MAX_VALUE - 8}) {
                refused(MISSING, Edges::nothing, b -> b.entry(entry, first[entry] + more));
                refused(MISSING, b -> {
                    eightPoints(b);
                    sixBreaks(b);
                }, b -> b.entry(entry, most[entry] + more));
            }
        }
    }

    private static void promise18Range() {
        says("Promise 18", "`place`: -1000 to 30000");
        Balance b = new Balance();
        readings(b, new int[][] {{-1000, 0}, {-999, 0}, {29999, 1000}, {30000, 1000}});
        b.setBreak(0, 31);
        b.setBreak(-1000, 0);
        b.setBreak(10000, 500);
        b.setBreak(30000, 1000);
        readings(b, new int[][] {{-1000, 0}, {-999, 0}, {-968, 0}, {-967, 1}, {29960, 999}, {29999, 999},
            {30000, 1000}});
    }

    private static void promise18OutOfRange() {
        says("Promise 18", "INVALID_ARGUMENT if place is out of range");
        refusedOutside(-1000, 30000, Balance::readingAt);
    }

    private static void promise19FirstAndLast() {
        says("Promise 19", "`index`: 0 for the part between the first and the second break, and so on");
        Balance b = new Balance();
        due(b.slopeBits(0), Float.floatToIntBits(0.1f));
        sixBreaks(b);
        due(b.slopeBits(0), Float.floatToIntBits(0.01f));
        due(b.slopeBits(3), Float.floatToIntBits(0.01f));
        due(b.slopeBits(4), Float.floatToIntBits(960f / 6000f));
    }

    private static void promise19Negative() {
        says("Promise 19", "INVALID_ARGUMENT if index is negative");
        for (int index : new int[] {-1, -2, Integer.MIN_VALUE, -65536}) {
            refused(INVALID, Edges::nothing, b -> b.slopeBits(index));
            refused(INVALID, Edges::busy, b -> b.slopeBits(index));
        }
    }

    private static void promise19NotSoMany() {
        says("Promise 19", "NOT_FOUND if there are not so many parts");
        for (int index : new int[] {1, 2, 65536, Integer.MAX_VALUE - 1, Integer.MAX_VALUE}) {
            refused(MISSING, Edges::nothing, b -> b.slopeBits(index));
        }
        for (int index : new int[] {5, 6, Integer.MAX_VALUE}) {
            refused(MISSING, SpringAndScaleEdgesTest::sixBreaks, b -> b.slopeBits(index));
        }
    }

    private static void promise19SteepestAndFlattest() {
        says("Promise 19", "(difference of readings) / (difference of places), both converted to float");
        Balance b = new Balance();
        b.setBreak(1, 999);
        due(b.slopeBits(0), Float.floatToIntBits(999f));
        due(b.slopeBits(1), Float.floatToIntBits(1f / 9999f));
        b.removeBreak(2);
        due(b.setBreak(1, 1000), 2);
        due(b.slopeBits(0), Float.floatToIntBits(1000f));
        b = new Balance();
        b.setBreak(0, 1);
        b.setBreak(-1000, 0);
        b.setBreak(10000, 2);
        b.setBreak(30000, 3);
        b.removeBreak(1);
        b.removeBreak(1);
        due(b.setBreak(30000, 1), 2);
        due(b.slopeBits(0), Float.floatToIntBits(1f / 31000f));
        due(b.setBreak(30000, 1000), 2);
        due(b.slopeBits(0), Float.floatToIntBits(1000f / 31000f));
        due(b.slopeBits(1), MISSING);
    }

    private static void promise20Ranges() {
        says("Promise 20",
            "dead zone (0 to 200, initially 5) ... rate (0 to 100, initially 10) ... step (0 to 50, initially 2)");
        Balance b = new Balance();
        int[] first = {5, 10, 2};
        int[] most = {200, 100, 50};
        for (int what = 0; what < 3; what++) {
            due(b.count(13 + what), first[what]);
            due(b.set(what, 0), first[what]);
            due(b.count(13 + what), 0);
            due(b.set(what, 1), 0);
            due(b.set(what, most[what]), 1);
            due(b.count(13 + what), most[what]);
            due(b.set(what, most[what] - 1), most[what]);
            due(b.set(what, 0), most[what] - 1);
        }
    }

    private static void promise20OutOfRange() {
        says("Promise 20", "INVALID_ARGUMENT if an argument is out of range");
        refusedOutside(0, 2, (b, what) -> b.set(what, 0));
        refusedOutside(0, 200, (b, value) -> b.set(0, value));
        refusedOutside(0, 100, (b, value) -> b.set(1, value));
        refusedOutside(0, 50, (b, value) -> b.set(2, value));
    }
}
