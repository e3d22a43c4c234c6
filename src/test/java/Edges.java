import java.util.ArrayList;
import java.util.List;
import java.util.function.Consumer;
import java.util.function.ToIntFunction;

/** What the tests of boundary cases share. Each of their methods begins with the words that it holds. */
abstract class Edges {
    static final int INVALID = SpringBalance.INVALID_ARGUMENT;
    static final int IMPOSSIBLE = SpringBalance.NOT_POSSIBLE;
    static final int LIMIT = SpringBalance.LIMIT_REACHED;
    static final int MISSING = SpringBalance.NOT_FOUND;

    private static final int STATES = 5;
    private static final int SHORT = 1 << 16;

    /** A call with one argument that is to be varied. */
    interface Call {
        int of(Balance balance, int argument);
    }

    static void says(String section, String words) {
        Check.says(section, words);
    }

    /** The answer of the latest call. */
    static void due(long got, long want) {
        Check.due(Balance.latest(), got, want);
    }

    static void counts(Balance balance, int... wants) {
        for (int what = 0; what < wants.length; what++) {
            due(balance.count(what), wants[what]);
        }
    }

    /** The oldest one first: the loads alone. */
    static void turns(Balance balance, int... loads) {
        due(balance.count(5), loads.length);
        for (int index = 0; index < loads.length; index++) {
            due(balance.turning(index, 0), loads[index]);
        }
        due(balance.turning(loads.length, 0), MISSING);
    }

    static Balance after(Consumer<Balance> calls) {
        Balance balance = new Balance();
        calls.accept(balance);
        return balance;
    }

    static Balance afterLoads(int... loads) {
        return after(b -> {
            for (int load : loads) {
                b.setLoad(load);
            }
        });
    }

    static void nothing(Balance balance) {
        due(balance.count(9), 0);
    }

    /** No number that can be asked is what it was at first, and there are five states that differ. */
    static void busy(Balance b) {
        b.setPoint(500, 2000);
        b.setBreak(5000, 600);
        b.set(0, 7);
        b.set(1, 20);
        b.set(2, 3);
        b.addWeight(100, 2, 10, -1);
        b.addWeight(200, -3, 20, 0);
        b.addWeight(300, 9, 5, 1);
        b.setLoad(700);
        b.put(0);
        b.hours(5);
        b.setLoad(300);
        b.write("=600;-0;h3;z");
        b.move();
        b.put(1);
        b.setLoad(400);
        b.write("-1;+9");
    }

    /** Values that are out of the range, also such as would be in it if their upper bits were lost. */
    static int[] outside(int least, int greatest) {
        List<Integer> values = new ArrayList<>(List.of(least - 1, greatest + 1, Integer.MIN_VALUE, Integer.MAX_VALUE,
            least + SHORT, greatest + SHORT, greatest - SHORT, Integer.MIN_VALUE + greatest));
        values.removeIf(value -> value >= least && value <= greatest);
        return values.stream().mapToInt(Integer::intValue).toArray();
    }

    static void refusedOutside(int least, int greatest, Call call) {
        for (int value : outside(least, greatest)) {
            refused(INVALID, Edges::nothing, b -> call.of(b, value));
            refused(INVALID, Edges::busy, b -> call.of(b, value));
        }
    }

    /** The call answers this error, and neither what can be asked nor a state of the history is another one for it. */
    static void refused(int error, Consumer<Balance> before, ToIntFunction<Balance> call) {
        for (int undone = 0; undone <= STATES + 1; undone++) {
            Balance asked = after(before);
            due(call.applyAsInt(asked), error);
            String name = Balance.latest();
            Balance left = after(before);
            for (int i = 0; i < undone; i++) {
                due(asked.undo(), left.undo());
            }
            Check.same("behind " + name + " and " + undone + " undo", asked.everything(), left.everything());
        }
    }
}
