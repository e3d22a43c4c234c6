/** The sentences of the promises 1 to 11 that name a boundary case. */
public final class LoadEdgesTest extends Edges {
    public static void main(String[] args) {
        promise1AllAtFirst();
        promise1Constants();
        promise2Range();
        promise2OutOfRange();
        promise2GreaterMassOnThePan();
        promise3NoSuchWeight();
        promise3OnThePan();
        promise3GreaterThanThousand();
        promise4NoSuchWeight();
        promise4NotOnThePan();
        promise4DownToNothing();
        promise5Range();
        promise5OutOfRange();
        promise6OnlyAtZero();
        promise6ForgetsAll();
        promise6PutsThePointer();
        promise6Returns();
        promise7Empty();
        promise7Left();
        promise8Range();
        promise8OutOfRange();
        promise8LeastAndGreatest();
        promise9OutOfRange();
        promise9NotSoMany();
        promise10Account();
        promise11WithoutTurningPoints();
        promise11WithTurningPoints();
        Check.finish();
    }

    private static void threeWeights(Balance b) {
        b.addWeight(500, 0, 0, -1);
        b.addWeight(499, 0, 0, -1);
        b.addWeight(1, 0, 0, -1);
    }

    private static void promise1AllAtFirst() {
        says("Promise 1", "Creates a balance as described.");
        Balance b = new Balance();
        counts(b, 0, 0, 0, 0, 0, 0, 0, 0, 0, 0, 0, 2, 2, 5, 10, 2);
        due(b.account(), 0);
        due(b.again(), 0);
        due(b.why(), 0);
        due(b.fault(), MISSING);
        due(b.undo(), IMPOSSIBLE);
        due(b.clearText(), 0);
        due(b.entry(2, 0), 0);
        due(b.entry(3, 0), 0);
        due(b.entry(2, 1), 10000);
        due(b.entry(3, 1), 1000);
        due(b.entry(2, 2), MISSING);
        due(b.weight(0, 0), INVALID);
        due(b.turning(0, 0), MISSING);
    }

    private static void promise1Constants() {
        says("The constants", "INVALID_ARGUMENT = -2000000001 ... NOT_POSSIBLE ... LIMIT_REACHED ... NOT_FOUND");
        due(SpringBalance.INVALID_ARGUMENT, -2000000001);
        due(SpringBalance.NOT_POSSIBLE, -2000000002);
        due(SpringBalance.LIMIT_REACHED, -2000000003);
        due(SpringBalance.NOT_FOUND, -2000000004);
    }

    private static void promise2Range() {
        says("Promise 2", "`load`: 0 to 1000 ... Returns the reading then");
        Balance b = new Balance();
        due(b.setLoad(0), 0);
        due(b.count(0), 0);
        due(b.setLoad(1), 0);
        due(b.count(0), 1);
        due(b.setLoad(999), 998);
        due(b.setLoad(1000), 999);
        due(b.count(0), 1000);
        due(b.count(1), 10000);
        due(b.setLoad(0), 0);
        due(b.count(3), 5);
        b.set(0, 0);
        due(b.setLoad(1000), 1000);
        due(b.setLoad(1), 1);
        due(b.setLoad(0), 0);
    }

    private static void promise2OutOfRange() {
        says("Promise 2", "INVALID_ARGUMENT if load is out of range");
        refusedOutside(0, 1000, Balance::setLoad);
    }

    private static void promise2GreaterMassOnThePan() {
        says("Promise 2", "NOT_POSSIBLE if the weights on the pan have a greater mass");
        for (int load : new int[] {0, 1, 499}) {
            refused(IMPOSSIBLE, b -> {
                threeWeights(b);
                b.put(1);
                b.put(2);
            }, b -> b.setLoad(load));
        }
        Balance b = after(LoadEdgesTest::threeWeights);
        due(b.setLoad(0), 0);
        b.put(1);
        b.put(2);
        due(b.setLoad(500), 499);
        due(b.setLoad(501), 500);
        due(b.setLoad(500), 500);
        b.put(0);
        due(b.setLoad(999), IMPOSSIBLE);
        due(b.setLoad(1000), 999);
        b.take(2);
        due(b.setLoad(998), IMPOSSIBLE);
        due(b.setLoad(999), 999);
        b.take(0);
        b.take(1);
        due(b.setLoad(0), 0);
    }

    private static void promise3NoSuchWeight() {
        says("Promise 3", "INVALID_ARGUMENT if there is no such weight");
        refused(INVALID, Edges::nothing, b -> b.put(0));
        refused(INVALID, Edges::nothing, b -> b.put(-1));
        refusedOutside(0, 2, Balance::put);
        Balance b = new Balance();
        for (int i = 0; i < 8; i++) {
            b.addWeight(1, 0, 0, -1);
        }
        due(b.put(8), INVALID);
        due(b.put(7), 0);
        due(b.put(0), 1);
        due(b.count(8), 2);
    }

    private static void promise3OnThePan() {
        says("Promise 3", "NOT_POSSIBLE if it is on the pan");
        refused(IMPOSSIBLE, b -> {
            threeWeights(b);
            b.put(2);
        }, b -> b.put(2));
        refused(IMPOSSIBLE, b -> {
            threeWeights(b);
            b.put(0);
            b.setLoad(1000);
        }, b -> b.put(0));
        refused(IMPOSSIBLE, Edges::busy, b -> b.put(1));
        Balance b = after(LoadEdgesTest::threeWeights);
        due(b.put(2), 0);
        b.take(2);
        due(b.put(2), 0);
        due(b.weight(2, 4), 1);
    }

    private static void promise3GreaterThanThousand() {
        says("Promise 3", "NOT_POSSIBLE if ... the load would be greater than 1000");
        for (int load : new int[] {501, 502, 1000}) {
            refused(IMPOSSIBLE, b -> {
                threeWeights(b);
                b.setLoad(load);
            }, b -> b.put(0));
        }
        refused(IMPOSSIBLE, b -> {
            threeWeights(b);
            b.setLoad(1000);
        }, b -> b.put(2));
        Balance b = after(LoadEdgesTest::threeWeights);
        b.setLoad(500);
        due(b.put(0), 999);
        due(b.count(0), 1000);
        due(b.setLoad(999), 999);
        due(b.put(2), 999);
        due(b.count(0), 1000);
    }

    private static void promise4NoSuchWeight() {
        says("Promise 4", "INVALID_ARGUMENT if there is no such weight");
        refused(INVALID, Edges::nothing, b -> b.take(0));
        refused(INVALID, Edges::nothing, b -> b.take(-1));
        refusedOutside(0, 2, Balance::take);
        Balance b = new Balance();
        for (int i = 0; i < 8; i++) {
            b.addWeight(1, 0, 0, -1);
            b.put(i);
        }
        due(b.take(8), INVALID);
        due(b.take(7), 7);
        due(b.take(0), 6);
        due(b.count(8), 6);
    }

    private static void promise4NotOnThePan() {
        says("Promise 4", "NOT_POSSIBLE if it is not on the pan");
        refused(IMPOSSIBLE, LoadEdgesTest::threeWeights, b -> b.take(0));
        refused(IMPOSSIBLE, b -> {
            threeWeights(b);
            b.setLoad(1000);
        }, b -> b.take(2));
        refused(IMPOSSIBLE, Edges::busy, b -> b.take(0));
        refused(IMPOSSIBLE, Edges::busy, b -> b.take(2));
        Balance b = after(Edges::busy);
        due(b.take(1), 531);
        due(b.take(1), IMPOSSIBLE);
    }

    private static void promise4DownToNothing() {
        says("Promise 4", "Takes a weight from the pan: the load decreases by its mass.");
        Balance b = after(LoadEdgesTest::threeWeights);
        b.put(0);
        b.put(1);
        b.put(2);
        due(b.count(0), 1000);
        b.take(2);
        due(b.count(0), 999);
        b.take(0);
        due(b.count(0), 499);
        b.take(1);
        due(b.count(0), 0);
        b.put(0);
        b.setLoad(1000);
        b.take(0);
        due(b.count(0), 500);
    }

    private static void promise5Range() {
        says("Promise 5", "`hours`: 1 to 200 ... Returns the creep then");
        Balance b = new Balance();
        b.set(1, 100);
        b.set(2, 1);
        b.setLoad(1000);
        due(b.hours(1), 1);
        due(b.count(2), 1);
        due(b.hours(200), 201);
        due(b.hours(199), 400);
        b.setLoad(0);
        due(b.hours(1), 399);
        due(b.hours(200), 199);
        due(b.hours(199), 0);
        due(b.hours(200), 0);
    }

    private static void promise5OutOfRange() {
        says("Promise 5", "INVALID_ARGUMENT if hours is out of range");
        refusedOutside(1, 200, Balance::hours);
    }

    private static void promise6OnlyAtZero() {
        says("Promise 6", "It is possible only at the load 0 ... NOT_POSSIBLE if the load is not 0");
        refused(IMPOSSIBLE, b -> b.setLoad(1), Balance::zero);
        refused(IMPOSSIBLE, b -> b.setLoad(1000), Balance::zero);
        refused(IMPOSSIBLE, Edges::busy, Balance::zero);
        refused(IMPOSSIBLE, b -> {
            b.setLoad(1000);
            b.setLoad(1);
        }, Balance::zero);
        refused(IMPOSSIBLE, b -> {
            b.addWeight(1, 0, 0, -1);
            b.put(0);
        }, Balance::zero);
        due(new Balance().zero(), 0);
        due(afterLoads(1, 0).zero(), 1);
    }

    private static void promise6ForgetsAll() {
        says("Promise 6",
            "Forgets all turning points, the way, the creep and the account ... the extension becomes 0.");
        Balance b = after(Edges::busy);
        b.take(1);
        b.setLoad(0);
        counts(b, 0, 3600, 24, 3631, 435, 1, -1, 3, 0);
        b.zero();
        counts(b, 0, 0, 0, 0, 0, 0, 0, 3, 0);
        due(b.account(), 0);
        due(b.again(), 0);
        due(b.hours(200), 0);
        b.setLoad(500);
        turns(b);
        due(b.count(1), 2000);
        due(b.account(), 1000000);
    }

    private static void promise6PutsThePointer() {
        says("Promise 6", "puts the pointer to the reach");
        Balance b = afterLoads(1000, 0);
        due(b.count(3), 5);
        b.zero();
        due(b.count(3), 0);
        b.set(0, 200);
        b.setLoad(1000);
        b.setLoad(0);
        due(b.count(3), 200);
        b.zero();
        due(b.count(3), 0);
        b.setPoint(1000, 20000);
        b.setPoint(1, 19000);
        b.setLoad(1000);
        b.setLoad(0);
        due(b.count(3), -18798);
        b.zero();
        due(b.count(3), 0);
    }

    private static void promise6Returns() {
        says("Promise 6", "Returns the number of turning points that are forgotten");
        Balance b = new Balance();
        due(b.zero(), 0);
        due(b.count(9), 1);
        b.setLoad(700);
        b.setLoad(300);
        b.setLoad(400);
        b.setLoad(0);
        due(b.zero(), 1);
        due(b.zero(), 0);
    }

    private static void promise7Empty() {
        says("Promise 7", "NOT_POSSIBLE if it is empty");
        refused(IMPOSSIBLE, Edges::nothing, Balance::undo);
        refused(IMPOSSIBLE, b -> {
            b.setLoad(500);
            b.write("=7;z");
            b.move();
            b.undo();
            b.undo();
        }, Balance::undo);
        Balance b = after(Edges::busy);
        for (int left = 4; left >= 0; left--) {
            due(b.undo(), left);
        }
        due(b.undo(), IMPOSSIBLE);
        due(b.undo(), IMPOSSIBLE);
    }

    private static void promise7Left() {
        says("Promise 7", "Restores the latest state of the history ... Returns the number of states that are left");
        for (int changes = 1; changes <= 13; changes++) {
            Balance b = new Balance();
            for (int i = 1; i <= changes; i++) {
                b.setLoad(i);
            }
            int kept = Math.min(changes, 5);
            for (int left = kept - 1; left >= 0; left--) {
                due(b.undo(), left);
                due(b.count(0), changes - kept + left);
            }
            due(b.undo(), IMPOSSIBLE);
            due(b.count(0), changes - kept);
            due(b.count(9), 0);
        }
    }

    private static void promise8Range() {
        says("Promise 8", "`what`: 0: the load; ... 15: the step");
        Balance b = after(Edges::busy);
        counts(b, 400, 5200, 24, 5231, 618, 3, -1, 3, 1, 5, 5, 3, 3, 7, 20, 3);
    }

    private static void promise8OutOfRange() {
        says("Promise 8", "INVALID_ARGUMENT if what is out of range");
        refusedOutside(0, 15, Balance::count);
    }

    private static void promise8LeastAndGreatest() {
        says("Promise 8", "Returns a number. [each of them as small and as great as it can be]");
        Balance b = new Balance();
        for (int i = 0; i < 8; i++) {
            b.addWeight(125, 0, 0, -1);
            b.put(i);
        }
        counts(b, 1000, 10000, 0, 9995, 999, 0, 1, 8, 8, 5, 0, 2, 2, 5, 10, 2);
        b.write("~".repeat(80));
        b.set(0, 200);
        b.set(1, 100);
        b.set(2, 50);
        b.hours(20);
        counts(b, 1000, 10000, 1000, 10800, 1000, 0, 1, 8, 8, 5, 80, 2, 2, 200, 100, 50);
    }

    private static void promise9OutOfRange() {
        says("Promise 9", "INVALID_ARGUMENT if index is negative or what is out of range");
        for (int index : new int[] {-1, Integer.MIN_VALUE, -65536}) {
            refused(INVALID, Edges::nothing, b -> b.turning(index, 0));
            refused(INVALID, Edges::busy, b -> b.turning(index, 0));
            refused(INVALID, Edges::busy, b -> b.turning(index, 1));
        }
        refusedOutside(0, 1, (b, what) -> b.turning(0, what));
        refusedOutside(0, 1, (b, what) -> b.turning(3, what));
    }

    private static void promise9NotSoMany() {
        says("Promise 9", "`index`: 0 for the oldest one ... NOT_FOUND if there are not so many");
        int[] missing = {0, 1, Integer.MAX_VALUE};
        for (int index : missing) {
            refused(MISSING, Edges::nothing, b -> b.turning(index, 0));
            refused(MISSING, Edges::nothing, b -> b.turning(index, 1));
        }
        for (int index : new int[] {3, 4, 65536, Integer.MAX_VALUE}) {
            refused(MISSING, Edges::busy, b -> b.turning(index, 0));
            refused(MISSING, Edges::busy, b -> b.turning(index, 1));
        }
        Balance b = after(Edges::busy);
        int[][] dues = {{800, 6800}, {300, 4800}, {700, 6400}};
        for (int index = 0; index < 3; index++) {
            due(b.turning(index, 0), dues[index][0]);
            due(b.turning(index, 1), dues[index][1]);
        }
    }

    private static void promise10Account() {
        says("Promise 10", "Returns the account.");
        Balance b = new Balance();
        due(b.account(), 0);
        b.setPoint(1000, 20000);
        b.setLoad(1000);
        due(b.account(), 20000000);
        b.setLoad(0);
        due(b.account(), 0);
        b.setLoad(1);
        due(b.account(), 20);
        b.undo();
        due(b.account(), 0);
        b.undo();
        due(b.account(), 20000000);
    }

    private static void promise11WithoutTurningPoints() {
        says("Promise 11", "V(load) if there are none");
        Balance b = after(c -> {
            c.setPoint(300, 100);
            c.setPoint(700, 9999);
        });
        due(b.again(), 0);
        int[][] due = {{1, 0}, {3, 1}, {299, 99}, {300, 100}, {301, 124}, {699, 9974}, {700, 9999}, {999, 9999},
            {1000, 10000}};
        for (int[] d : due) {
            b.setLoad(d[0]);
            due(b.again(), d[1]);
        }
        b.hours(200);
        due(b.again(), 10000);
    }

    private static void promise11WithTurningPoints() {
        says("Promise 11", "V of the first turning load, minus F of the difference to the second one, plus F ...");
        Balance b = after(c -> {
            c.setPoint(300, 100);
            c.setPoint(700, 9999);
        });
        b.setLoad(1000);
        b.setLoad(999);
        due(b.again(), 10000);
        b.setLoad(0);
        due(b.again(), -99);
        b.setLoad(1);
        due(b.again(), -99);
        b.setLoad(3);
        due(b.again(), -98);
        b.setLoad(2);
        due(b.again(), -98);
        b.setLoad(999);
        due(b.again(), 9975);
        b.setLoad(1);
        due(b.again(), 9975 - 10049);
        b.setLoad(1000);
        due(b.again(), 10000);
    }
}
