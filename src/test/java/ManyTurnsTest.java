/**
 * Promises 2 to 11 and 29 with as many turning points as there can be: each load from 0 to 1000 is one of them or
 * the present load. All answers are held against the model, and no balance is called more than 512 times.
 */
public final class ManyTurnsTest {
    /** Five new highest and five new lowest loads, each one inside the one before, with a weight of 496 - 5 * k. */
    private static final String INWARD =
        "=504;+0;=496;-0;=503;+0;=497;-0;=502;+0;=498;-0;=501;+0;=499;-0;=500;+0;=500;-0";
    private static final int[][][] CURVES = {
        {},
        {{500, 2000}, {1000, 20000}},
        {{300, 9000}, {700, 9500}},
        {{1, 7}, {499, 4001}, {501, 4999}, {998, 9990}},
    };
    private static final int[] DEAD_ZONES = {5, 0, 20, 200};

    private final SpringBalance balance = new SpringBalance();
    private final Model model = new Model();
    private final String run;
    private int calls;

    private ManyTurnsTest(String run) {
        this.run = run;
    }

    public static void main(String[] args) {
        Check.says("Spring", "as long as there are at least two turning points [and they fill the loads from 0 to 1000]");
        for (int shape = 0; shape < CURVES.length; shape++) {
            everyTurningLoadIsThere(shape);
            everyWayOut(shape);
            outByTexts(shape);
            outByWeights(shape);
            throughTheHistory(shape);
        }
        theAnswersByHand();
        Check.finish();
    }

    private void due(String call, long got, long want) {
        calls++;
        Check.due(run + call, got, want);
    }

    private void withinTheCalls() {
        Check.due(run + "at most 512 calls, not " + calls, calls <= 512 ? 1 : 0, 1);
    }

    private void setLoad(int load) {
        due("setLoad(" + load + ")", balance.setLoad(load), model.setLoad(load));
    }

    private void addWeight(int mass) {
        due("addWeight(" + mass + ")", balance.addWeight(mass, 0, 0, -1), model.addWeight(mass, 0, 0, -1));
    }

    private void removeWeight() {
        due("removeWeight(0)", balance.removeWeight(0), model.removeWeight(0));
    }

    private void undo() {
        due("undo()", balance.undo(), model.undo());
    }

    private void move() {
        due("move()", balance.move(), model.move());
    }

    private void write(String text) {
        due("clearText()", balance.clearText(), model.clearText());
        for (char c : text.toCharArray()) {
            due("type(" + c + ")", balance.type(c), model.type(c));
        }
    }

    private void turning(int index) {
        due("turning(" + index + ", 0)", balance.turning(index, 0), model.turning(index, 0));
        due("turning(" + index + ", 1)", balance.turning(index, 1), model.turning(index, 1));
    }

    private void compare(String after) {
        for (int what = 0; what <= 6; what++) {
            due(after + " count(" + what + ")", balance.count(what), model.count(what));
        }
        due(after + " account()", balance.account(), model.account());
        due(after + " again()", balance.again(), model.again());
        due(after + " again() and the extension", balance.again(), model.count(1));
        turning(model.count(5) - 1);
        turning(model.count(5));
    }

    /** The load is 499 then, with 999 turning points. */
    private static ManyTurnsTest filled(String name, int shape) {
        ManyTurnsTest t = new ManyTurnsTest("shape " + shape + ", " + name + ": ");
        for (int[] p : CURVES[shape]) {
            t.due("setPoint", t.balance.setPoint(p[0], p[1]), t.model.setPoint(p[0], p[1]));
        }
        int zone = DEAD_ZONES[shape];
        t.due("set(0, " + zone + ")", t.balance.set(0, zone), t.model.set(0, zone));
        t.write(INWARD);
        for (int mass = 496; mass > 0; mass -= 5) {
            t.addWeight(mass);
            t.move();
            if (mass > 1) {
                t.removeWeight();
            }
        }
        Check.due(t.run + "turning points", t.model.count(5), 999);
        Check.due(t.run + "the load", t.model.count(0), 499);
        return t;
    }

    /** With the load 500 there is no load left that is not a turning one. */
    private static ManyTurnsTest full(String name, int shape) {
        ManyTurnsTest t = filled(name, shape);
        t.setLoad(500);
        Check.due(t.run + "turning points", t.model.count(5), 1000);
        return t;
    }

    private static void everyTurningLoadIsThere(int shape) {
        for (int part = 0; part < 20; part++) {
            ManyTurnsTest t = full("turning points from " + part * 50, shape);
            for (int index = part * 50; index < part * 50 + 50; index++) {
                t.turning(index);
            }
            t.turning(1000);
            t.withinTheCalls();
        }
    }

    private static void everyWayOut(int shape) {
        for (int first = 0; first <= 1000; first += 6) {
            ManyTurnsTest t = full("ways out from " + first, shape);
            for (int target = first; target < first + 6 && target <= 1000; target++) {
                t.setLoad(target);
                t.compare("setLoad(" + target + ")");
                t.undo();
            }
            t.withinTheCalls();
        }
    }

    private static void outByTexts(int shape) {
        String[] texts = {"=500;=0", "=500;=0;z", "=500;=499;=501", "=500;=1000", "=500;=1000;=0;=1000",
            "=500;h3;=498;h200;=502", "=501;=500;=499;=500", "h9;=500;+0;-0", "=500;=0;=1001"};
        for (String text : texts) {
            ManyTurnsTest t = filled("the text " + text, shape);
            t.write(text);
            t.move();
            t.compare("move()");
            t.undo();
            t.compare("undo()");
            t.withinTheCalls();
        }
    }

    private static void outByWeights(int shape) {
        ManyTurnsTest t = filled("weights", shape);
        for (int i = 0; i < 2; i++) {
            t.due("put(0)", t.balance.put(0), t.model.put(0));
            t.compare("put(0)");
            t.due("take(0)", t.balance.take(0), t.model.take(0));
            t.compare("take(0)");
        }
        t.due("hours(2)", t.balance.hours(2), t.model.hours(2));
        t.setLoad(0);
        t.compare("setLoad(0)");
        t.due("zero()", t.balance.zero(), t.model.zero());
        t.compare("zero()");
        t.withinTheCalls();
    }

    private static void throughTheHistory(int shape) {
        ManyTurnsTest t = full("the history", shape);
        for (int load : new int[] {0, 700, 1000, 500}) {
            t.setLoad(load);
        }
        for (int left = 5; left > 0; left--) {
            t.undo();
            t.compare("undo() to " + left);
        }
        t.setLoad(500);
        t.setLoad(1000);
        t.compare("after them");
        t.withinTheCalls();
    }

    /** On the straight curve of a new balance the extension is ten times the load, whatever the way. */
    private static void theAnswersByHand() {
        ManyTurnsTest t = full("by hand", 0);
        SpringBalance b = t.balance;
        t.due("the latest turning load", b.turning(999, 0), 499);
        t.due("no more than 1000", b.turning(1000, 0), SpringBalance.NOT_FOUND);
        t.due("setLoad(0)", b.setLoad(0), 0);
        Check.counts("at 0", b, 0, 0, 0, 5, 0, 1, -1);
        t.due("the first one is left", b.turning(0, 0), 1000);
        t.due("its extension", b.turning(0, 1), 10000);
        t.due("undo", b.undo(), 4);
        t.due("setLoad(1000)", b.setLoad(1000), 999);
        Check.counts("at 1000", b, 1000, 10000, 0, 9995, 999, 0, 1);
        t.due("undo", b.undo(), 4);
        t.due("setLoad(499)", b.setLoad(499), 499);
        t.due("two are forgotten", b.count(5), 999);
        t.due("undo", b.undo(), 4);
        t.due("setLoad(501)", b.setLoad(501), 500);
        t.due("one short of nothing", b.count(5), 998);
        t.withinTheCalls();
    }
}
