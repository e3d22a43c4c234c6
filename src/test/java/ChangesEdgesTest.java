import java.util.ArrayDeque;
import java.util.Deque;
import java.util.function.Consumer;
import java.util.function.ToIntFunction;

/** The section on changes and errors: the history at its ends, and calls to which several errors apply. */
public final class ChangesEdgesTest extends Edges {
    public static void main(String[] args) {
        eachChangeIsRecorded();
        alsoIfNothingBecomesDifferent();
        noOtherCallIsAChange();
        everythingButTextAndWhy();
        atMostFiveStates();
        theOldestOneIsDropped();
        droppedAgainAndAgain();
        statesOfTheGreatestSize();
        invalidRatherThanNotPossible();
        invalidRatherThanLimit();
        invalidRatherThanNotFound();
        notPossibleRatherThanLimit();
        notPossibleRatherThanNotFound();
        errorsChangeNothing();
        Check.finish();
    }

    /** The change answers this, is recorded, and undone it leaves what was there. */
    private static void changes(int answer, Consumer<Balance> before, ToIntFunction<Balance> change) {
        Balance b = after(before);
        due(change.applyAsInt(b), answer);
        String name = Balance.latest();
        Balance left = after(before);
        int states = left.count(9);
        due(b.count(9), Math.min(states + 1, 5));
        due(b.undo(), Math.min(states, 4));
        Check.same(name + " undone", b.bench(), left.bench());
    }

    private static void ready(Balance b) {
        b.addWeight(100, 2, 10, -1);
        b.addWeight(200, -3, 20, 0);
        b.setPoint(500, 2000);
        b.setBreak(5000, 600);
    }

    private static void loaded(Balance b) {
        ready(b);
        b.put(0);
        b.setLoad(700);
        b.hours(3);
        b.setLoad(300);
        b.setLoad(400);
    }

    private static void unloaded(Balance b) {
        loaded(b);
        b.take(0);
        b.setLoad(0);
    }

    /** No two weights are alike in anything; 1 is the parent of 2 and of 3, and 3 that of 4. */
    private static void family(Balance b) {
        b.addWeight(11, 1, 10, -1);
        b.addWeight(12, 2, 20, -1);
        b.addWeight(13, 3, 30, 1);
        b.addWeight(14, 4, 40, 1);
        b.addWeight(15, 5, 50, 3);
        b.put(3);
    }

    private static void eachChangeIsRecorded() {
        says("Changes and errors", "The changes are the calls of setLoad, put, take, ... that return no error");
        changes(528, ChangesEdgesTest::loaded, b -> b.setLoad(500));
        changes(1000, ChangesEdgesTest::loaded, b -> b.setLoad(1000));
        changes(576, ChangesEdgesTest::loaded, b -> b.put(1));
        changes(433, ChangesEdgesTest::loaded, b -> b.take(0));
        changes(40, ChangesEdgesTest::loaded, b -> b.hours(200));
        changes(1, ChangesEdgesTest::unloaded, Balance::zero);
        changes(4, ChangesEdgesTest::ready, b -> b.setPoint(600, 2001));
        changes(2000, ChangesEdgesTest::ready, b -> b.removePoint(500));
        changes(4, ChangesEdgesTest::loaded, b -> b.setBreak(1, 1));
        changes(2, ChangesEdgesTest::loaded, b -> b.removeBreak(0));
        changes(5, ChangesEdgesTest::loaded, b -> b.set(0, 200));
        changes(10, ChangesEdgesTest::loaded, b -> b.set(1, 0));
        changes(2, ChangesEdgesTest::loaded, b -> b.set(2, 50));
        changes(2, ChangesEdgesTest::loaded, b -> b.addWeight(1, 1, 1, 1));
        changes(1, ChangesEdgesTest::loaded, b -> b.removeWeight(1));
        changes(4, ChangesEdgesTest::family, b -> b.removeWeight(0));
        changes(4, ChangesEdgesTest::family, b -> b.removeWeight(2));
        changes(4, ChangesEdgesTest::family, b -> b.removeWeight(4));
        changes(2, ChangesEdgesTest::loaded, b -> b.adopt(2));
        changes(3, b -> {
            loaded(b);
            b.write("=1000;-0;h200;z");
        }, Balance::move);
    }

    private static void alsoIfNothingBecomesDifferent() {
        says("Changes and errors", "(also if nothing becomes different)");
        changes(0, Edges::nothing, b -> b.setLoad(0));
        changes(480, ChangesEdgesTest::loaded, b -> b.setLoad(400));
        changes(0, Edges::nothing, b -> b.hours(1));
        changes(0, Edges::nothing, Balance::zero);
        changes(2, Edges::nothing, b -> b.setPoint(1000, 10000));
        changes(3, ChangesEdgesTest::ready, b -> b.setPoint(500, 2000));
        changes(2, Edges::nothing, b -> b.setBreak(0, 0));
        changes(5, Edges::nothing, b -> b.set(0, 5));
        changes(10, Edges::nothing, b -> b.set(1, 10));
        changes(2, Edges::nothing, b -> b.set(2, 2));
        changes(2, b -> {
            ready(b);
            b.adopt(1);
        }, b -> b.adopt(1));
        changes(0, Edges::nothing, Balance::move);
        changes(0, b -> b.write("+0"), Balance::move);
        changes(1, b -> b.write("z"), Balance::move);
    }

    private static void noOtherCallIsAChange() {
        says("Changes and errors", "The changes are the calls of setLoad, put, take, ... [and of nothing else]");
        Balance b = after(ChangesEdgesTest::ready);
        String before = b.bench();
        b.curve(0, 5);
        b.readingAt(5);
        b.slopeBits(0);
        b.calibration(3, 12);
        b.write("=5;x");
        b.fault();
        b.why();
        b.clearText();
        due(b.count(9), 4);
        Check.same("behind questions", b.bench(), before);
        b.undo();
        due(b.count(9), 3);
        due(b.count(12), 2);
    }

    private static void everythingButTextAndWhy() {
        says("Changes and errors", "each change records everything before it but the text and what why tells");
        Balance b = new Balance();
        b.write("+0");
        due(b.move(), 0);
        due(b.why(), 1);
        b.write("=5;z");
        due(b.move(), 1);
        due(b.why(), 5);
        b.type(';');
        due(b.undo(), 1);
        due(b.why(), 5);
        due(b.count(10), 5);
        due(b.fault(), 3);
        b.clearText();
        due(b.undo(), 0);
        due(b.why(), 5);
        due(b.count(10), 0);
    }

    private static void atMostFiveStates() {
        says("Changes and errors", "A history of at most 5 states is kept");
        Balance b = new Balance();
        due(b.count(9), 0);
        for (int i = 1; i <= 20; i++) {
            b.setLoad(i);
            due(b.count(9), Math.min(i, 5));
        }
    }

    private static void theOldestOneIsDropped() {
        says("Changes and errors", "if there are 6 states then, the oldest one is dropped");
        Balance five = afterLoads(1, 2, 3, 4, 5);
        Balance six = afterLoads(1, 2, 3, 4, 5, 6);
        for (int left = 4; left >= 0; left--) {
            due(five.undo(), left);
            due(five.count(0), left);
            due(six.undo(), left);
            due(six.count(0), left + 1);
        }
        due(five.undo(), IMPOSSIBLE);
        due(six.undo(), IMPOSSIBLE);
        due(six.count(0), 1);
    }

    private static void droppedAgainAndAgain() {
        says("Changes and errors", "the oldest one is dropped [again and again, with undos between]");
        for (int undos = 1; undos <= 5; undos++) {
            Balance b = new Balance();
            Deque<Integer> kept = new ArrayDeque<>();
            int load = 0;
            int changes = 0;
            for (int round = 0; round < 8; round++) {
                for (int i = 0; i < 3 + round % 4; i++) {
                    kept.addLast(load);
                    if (kept.size() > 5) {
                        kept.removeFirst();
                    }
                    changes++;
                    load = changes;
                    b.setLoad(load);
                    due(b.count(9), kept.size());
                }
                for (int i = 0; i < undos && !kept.isEmpty(); i++) {
                    load = kept.removeLast();
                    due(b.undo(), kept.size());
                    due(b.count(0), load);
                }
            }
        }
    }

    private static void full(Balance b) {
        for (int i = 1; i <= 6; i++) {
            b.setPoint(i, i);
        }
        for (int i = 1; i <= 4; i++) {
            b.setBreak(i, i);
        }
        for (int i = 0; i < 8; i++) {
            b.addWeight(1, 9, 1000, i - 1);
        }
        for (int i = 0; i < 30; i++) {
            b.setLoad(1000 - i);
            b.setLoad(10 + i);
        }
        for (int i = 0; i < 8; i++) {
            b.put(i);
        }
    }

    private static void statesOfTheGreatestSize() {
        says("Changes and errors", "each change records everything before it [with all rows as long as they can be]");
        changes(6, ChangesEdgesTest::full, b -> b.setBreak(0, 0));
        changes(7, b -> {
            full(b);
            b.take(7);
        }, b -> b.removeWeight(7));
        changes(5, ChangesEdgesTest::full, b -> b.removeBreak(3));
        changes(2, b -> {
            full(b);
            b.write("-7;=1000;=0;=700");
        }, Balance::move);
        changes(8, b -> {
            full(b);
            b.write("-0;-1;-2;-3;-4;-5;-6;-7");
        }, Balance::move);
    }

    private static void heavy(Balance b) {
        b.addWeight(500, 0, 0, -1);
        b.addWeight(500, 0, 0, -1);
        b.addWeight(500, 0, 0, -1);
        b.put(0);
    }

    private static void eightPoints(Balance b) {
        for (int i = 1; i <= 6; i++) {
            b.setPoint(i * 100, i * 10);
        }
    }

    private static void sixBreaks(Balance b) {
        for (int i = 1; i <= 4; i++) {
            b.setBreak(i * 100, i * 10);
        }
    }

    private static void invalidRatherThanNotPossible() {
        says("Changes and errors", "INVALID_ARGUMENT is returned rather than NOT_POSSIBLE");
        refused(INVALID, ChangesEdgesTest::heavy, b -> b.setLoad(-1));
        refused(INVALID, Edges::busy, b -> b.setPoint(0, 3000));
        refused(INVALID, Edges::busy, b -> b.setPoint(600, 20001));
        refused(INVALID, Edges::busy, b -> b.removePoint(1000));
        refused(INVALID, Edges::nothing, b -> b.setBreak(-1001, 0));
        refused(INVALID, Edges::nothing, b -> b.setBreak(10001, 1001));
        refused(INVALID, Edges::nothing, b -> b.removeBreak(2));
        refused(INVALID, ChangesEdgesTest::heavy, b -> b.calibration(1, 15));
        refused(INVALID, ChangesEdgesTest::heavy, b -> b.calibration(1 + 8, 0));
        refused(INVALID, ChangesEdgesTest::heavy, b -> b.calibration(7, -1));
        refused(INVALID, ChangesEdgesTest::heavy, b -> b.adopt(1 + 8));
        refused(INVALID, b -> {
            heavy(b);
            b.addWeight(500, 0, 0, -1);
            b.addWeight(500, 0, 0, -1);
            b.addWeight(500, 0, 0, -1);
        }, b -> b.adopt(63));
    }

    private static void invalidRatherThanLimit() {
        says("Changes and errors", "INVALID_ARGUMENT is returned rather than ... LIMIT_REACHED");
        refused(INVALID, ChangesEdgesTest::eightPoints, b -> b.setPoint(50, 0));
        refused(INVALID, ChangesEdgesTest::sixBreaks, b -> b.setBreak(50, -1));
        refused(INVALID, ChangesEdgesTest::full, b -> b.addWeight(0, 0, 0, -1));
        refused(INVALID, ChangesEdgesTest::full, b -> b.addWeight(1, 0, 0, 8));
        refused(INVALID, b -> b.write("z".repeat(80)), b -> b.type(31));
        refused(INVALID, b -> b.write("z".repeat(80)), b -> b.type(127));
    }

    private static void invalidRatherThanNotFound() {
        says("Changes and errors", "INVALID_ARGUMENT is returned rather than ... NOT_FOUND");
        refused(INVALID, Edges::nothing, b -> b.turning(5, 2));
        refused(INVALID, Edges::nothing, b -> b.turning(-1, 0));
        refused(INVALID, Edges::nothing, b -> b.removePoint(0));
        refused(INVALID, Edges::nothing, b -> b.entry(4, 5));
        refused(INVALID, Edges::nothing, b -> b.slopeBits(-1));
        refused(INVALID, b -> b.addWeight(1, 0, 0, -1), b -> b.calibration(2, 5));
        refused(INVALID, b -> b.addWeight(1, 0, 0, -1), b -> b.calibration(0, 5));
    }

    private static void notPossibleRatherThanLimit() {
        says("Changes and errors", "NOT_POSSIBLE rather than LIMIT_REACHED");
        refused(IMPOSSIBLE, ChangesEdgesTest::eightPoints, b -> b.setPoint(50, 10));
        refused(IMPOSSIBLE, b -> {
            eightPoints(b);
            b.setLoad(1);
        }, b -> b.setPoint(50, 5));
        refused(IMPOSSIBLE, b -> {
            eightPoints(b);
            b.setLoad(100);
            b.setLoad(0);
        }, b -> b.setPoint(50, 5));
        refused(IMPOSSIBLE, ChangesEdgesTest::sixBreaks, b -> b.setBreak(50, 10));
        refused(IMPOSSIBLE, ChangesEdgesTest::sixBreaks, b -> b.setBreak(50, 0));
    }

    private static void notPossibleRatherThanNotFound() {
        says("Changes and errors", "NOT_POSSIBLE ... rather than NOT_FOUND");
        refused(IMPOSSIBLE, b -> b.setLoad(1), b -> b.removePoint(500));
        refused(IMPOSSIBLE, b -> {
            b.setLoad(100);
            b.setLoad(0);
        }, b -> b.removePoint(500));
        refused(IMPOSSIBLE, ChangesEdgesTest::heavy, b -> b.calibration(1, 5));
        refused(IMPOSSIBLE, b -> {
            heavy(b);
            b.take(0);
        }, b -> b.calibration(7, 11));
    }

    private static void errorsChangeNothing() {
        says("Changes and errors", "A call that returns an error changes nothing.");
        refused(INVALID, ChangesEdgesTest::full, b -> b.setLoad(1001));
        refused(IMPOSSIBLE, ChangesEdgesTest::full, b -> b.setLoad(7));
        refused(IMPOSSIBLE, ChangesEdgesTest::full, b -> b.put(0));
        refused(INVALID, ChangesEdgesTest::full, b -> b.take(8));
        refused(INVALID, ChangesEdgesTest::full, b -> b.hours(201));
        refused(IMPOSSIBLE, ChangesEdgesTest::full, Balance::zero);
        refused(IMPOSSIBLE, ChangesEdgesTest::full, b -> b.setPoint(7, 7));
        refused(IMPOSSIBLE, ChangesEdgesTest::full, b -> b.removePoint(6));
        refused(LIMIT, ChangesEdgesTest::full, b -> b.setBreak(5, 5));
        refused(INVALID, ChangesEdgesTest::full, b -> b.removeBreak(6));
        refused(INVALID, ChangesEdgesTest::full, b -> b.set(0, 201));
        refused(LIMIT, ChangesEdgesTest::full, b -> b.addWeight(1, 0, 0, 7));
        refused(IMPOSSIBLE, ChangesEdgesTest::full, b -> b.removeWeight(7));
        refused(IMPOSSIBLE, ChangesEdgesTest::full, b -> b.calibration(31, 0));
        refused(IMPOSSIBLE, ChangesEdgesTest::full, b -> b.adopt(31));
        refused(INVALID, ChangesEdgesTest::full, b -> b.type(127));
        refused(IMPOSSIBLE, b -> {
            full(b);
            b.write("-0;=0;=5;");
        }, Balance::move);
    }
}
