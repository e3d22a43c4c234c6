/** Promises 1 to 11. */
public final class LoadsTest {
    private static final int INVALID = SpringBalance.INVALID_ARGUMENT;
    private static final int IMPOSSIBLE = SpringBalance.NOT_POSSIBLE;
    private static final int MISSING = SpringBalance.NOT_FOUND;

    public static void main(String[] args) {
        promise1NewObject();
        promise2SetLoad();
        promise2LoopsAreRememberedAndForgotten();
        promise2SeveralLoopsAreForgottenAtOnce();
        promise2Pointer();
        promise3Put();
        promise4Take();
        promise5Hours();
        promise5PointerComesHourByHour();
        promise6Zero();
        promise7Undo();
        promise7EveryChangeIsRecorded();
        promise7ErrorsAndQuestionsAreNotRecorded();
        promise8Count();
        promise9Turning();
        promise10Account();
        promise10AccountIsLong();
        promise11Again();
        manyTurns();
        Check.finish();
    }

    /** V is 4 * w up to 500 and then 2000 + 16 * (w - 500); F is 4 * d for all differences. */
    private static SpringBalance bent() {
        SpringBalance b = new SpringBalance();
        Check.due("bent: setPoint", b.setPoint(500, 2000), 3);
        Check.due("bent: set", b.set(0, 0), 5);
        return b;
    }

    private static void promise1NewObject() {
        SpringBalance b = new SpringBalance();
        Check.counts("new", b, 0, 0, 0, 0, 0, 0, 0, 0, 0, 0, 0, 2, 2, 5, 10, 2);
        Check.due("new account", b.account(), 0);
        Check.due("new again", b.again(), 0);
        Check.due("new why", b.why(), 0);
        Check.due("new fault", b.fault(), MISSING);
        Check.due("new undo", b.undo(), IMPOSSIBLE);
        Check.due("new turning", b.turning(0, 0), MISSING);
        Check.due("new weight", b.weight(0, 0), INVALID);
        int[][] entries = {{0, 1000}, {0, 10000}, {0, 10000}, {0, 1000}};
        for (int what = 0; what < 4; what++) {
            Check.due("new entry", b.entry(what, 0), entries[what][0]);
            Check.due("new entry", b.entry(what, 1), entries[what][1]);
            Check.due("new entry", b.entry(what, 2), MISSING);
        }
        SpringBalance other = new SpringBalance();
        other.setLoad(700);
        Check.due("two balances are two", b.count(0), 0);
        Check.due("INVALID_ARGUMENT", INVALID, -2000000001);
        Check.due("NOT_POSSIBLE", IMPOSSIBLE, -2000000002);
        Check.due("LIMIT_REACHED", SpringBalance.LIMIT_REACHED, -2000000003);
        Check.due("NOT_FOUND", MISSING, -2000000004);
    }

    private static void promise2SetLoad() {
        SpringBalance b = new SpringBalance();
        for (int load : new int[] {-1, 1001, Integer.MIN_VALUE, Integer.MAX_VALUE}) {
            Check.due("setLoad out of range", b.setLoad(load), INVALID);
        }
        Check.due("setLoad(400)", b.setLoad(400), 399);
        Check.counts("at 400", b, 400, 4000, 0, 3995, 399, 0, 1);
        Check.due("setLoad(400) again", b.setLoad(400), 399);
        Check.counts("at 400", b, 400, 4000, 0, 3995, 399, 0, 1, 0, 0, 2);
        Check.due("setLoad(1000)", b.setLoad(1000), 999);
        Check.due("setLoad(0)", b.setLoad(0), 0);
        Check.counts("back at 0", b, 0, 0, 0, 5, 0, 1, -1);
        b.addWeight(250, 0, 0, -1);
        b.put(0);
        Check.due("less than the pan", b.setLoad(249), IMPOSSIBLE);
        Check.due("less than the pan and out of range", b.setLoad(-1), INVALID);
        Check.due("as much as the pan", b.setLoad(250), 249);
        Check.due("more than the pan", b.setLoad(300), 299);
        Check.due("down to the pan", b.setLoad(250), 250);
    }

    private static void promise2LoopsAreRememberedAndForgotten() {
        SpringBalance b = bent();
        b.setLoad(700);
        Check.due("V(700)", b.count(1), 5200);
        b.setLoad(400);
        Check.due("5200 - F(300)", b.count(1), 4000);
        Check.due("one turn", b.count(5), 1);
        b.setLoad(500);
        Check.due("4000 + F(100)", b.count(1), 4400);
        Check.due("two turns", b.count(5), 2);
        b.setLoad(699);
        Check.due("4000 + F(299)", b.count(1), 5196);
        Check.due("one short of the turn", b.count(5), 2);
        b.setLoad(500);
        Check.due("5196 - F(199)", b.count(1), 4400);
        Check.due("three turns", b.count(5), 3);
        b.setLoad(401);
        Check.due("one short of the lower turn", b.count(5), 3);
        b.setLoad(400);
        Check.due("at the lower turn", b.count(5), 1);
        Check.due("5200 - F(300)", b.count(1), 4000);
        b.setLoad(300);
        Check.due("5200 - F(400)", b.count(1), 3600);
        b.setLoad(700);
        Check.due("at the upper turn", b.count(5), 0);
        Check.due("V(700)", b.count(1), 5200);
        b.setLoad(300);
        b.setLoad(800);
        Check.due("past the upper turn", b.count(5), 0);
        Check.due("V(800)", b.count(1), 6800);
        Check.due("the way", b.count(6), 1);
    }

    private static void promise2SeveralLoopsAreForgottenAtOnce() {
        SpringBalance b = bent();
        for (int load : new int[] {700, 400, 600, 500, 550}) {
            b.setLoad(load);
        }
        Check.due("four turns", b.count(5), 4);
        b.setLoad(750);
        Check.due("no turn", b.count(5), 0);
        Check.due("V(750)", b.count(1), 6000);
        for (int load : new int[] {400, 600, 450, 550, 500}) {
            b.setLoad(load);
        }
        Check.due("five turns", b.count(5), 5);
        b.setLoad(420);
        Check.due("three turns", b.count(5), 3);
        b.setLoad(100);
        Check.due("one turn", b.count(5), 1);
        Check.due("6000 - F(650)", b.count(1), 3400);
    }

    private static void promise2Pointer() {
        SpringBalance b = new SpringBalance();
        b.set(0, 20);
        b.setLoad(2);
        Check.due("in the dead zone", b.count(3), 0);
        b.setLoad(3);
        Check.due("behind the dead zone", b.count(3), 10);
        b.setLoad(1);
        Check.due("back in the dead zone", b.count(3), 10);
        b.setLoad(100);
        b.setLoad(98);
        Check.due("20 back", b.count(3), 980);
        b.setLoad(96);
        Check.due("40 back", b.count(3), 980);
        b.setLoad(95);
        Check.due("50 back", b.count(3), 970);
        b.set(0, 0);
        Check.due("it does not come with the dead zone", b.count(3), 970);
        b.setLoad(95);
        Check.due("nor with the same load", b.count(3), 970);
        b.setLoad(96);
        Check.due("but with another one", b.count(3), 960);
    }

    private static void promise3Put() {
        SpringBalance b = new SpringBalance();
        Check.due("no weight", b.put(0), INVALID);
        b.addWeight(300, 5, 0, -1);
        b.addWeight(500, 0, 0, -1);
        b.addWeight(201, 0, 0, -1);
        Check.due("put(0)", b.put(0), 299);
        Check.counts("put(0)", b, 300, 3000, 0, 2995, 299, 0, 1, 3, 1);
        Check.due("put(0) again", b.put(0), IMPOSSIBLE);
        Check.due("put(-1)", b.put(-1), INVALID);
        Check.due("put(3)", b.put(3), INVALID);
        Check.due("put(MAX)", b.put(Integer.MAX_VALUE), INVALID);
        Check.due("put(1)", b.put(1), 799);
        Check.due("1001", b.put(2), IMPOSSIBLE);
        Check.due("not put", b.weight(2, 4), 0);
        b.take(0);
        b.setLoad(799);
        Check.due("exactly 1000", b.put(2), 999);
        Check.due("exactly 1000", b.count(0), 1000);
    }

    private static void promise4Take() {
        SpringBalance b = new SpringBalance();
        Check.due("no weight", b.take(0), INVALID);
        b.addWeight(300, 0, 0, -1);
        Check.due("not on the pan", b.take(0), IMPOSSIBLE);
        Check.due("take(1)", b.take(1), INVALID);
        Check.due("take(-1)", b.take(-1), INVALID);
        b.put(0);
        b.setLoad(450);
        Check.due("take(0)", b.take(0), 150);
        Check.counts("taken", b, 150, 1500, 0, 1505, 150, 1, -1, 1, 0);
        Check.due("taken before", b.take(0), IMPOSSIBLE);
        b.put(0);
        b.setLoad(300);
        Check.due("to 0", b.take(0), 0);
        Check.due("to 0", b.count(0), 0);
    }

    private static void promise5Hours() {
        SpringBalance b = new SpringBalance();
        for (int hours : new int[] {0, -1, 201, Integer.MIN_VALUE, Integer.MAX_VALUE}) {
            Check.due("hours out of range", b.hours(hours), INVALID);
        }
        Check.due("nothing to creep to", b.hours(200), 0);
        b.setLoad(59);
        Check.due("1 hour", b.hours(1), 2);
        Check.due("1 hour", b.hours(1), 4);
        Check.due("what is missing", b.hours(1), 5);
        Check.due("no more", b.hours(200), 5);
        Check.due("the pointer", b.count(3), 590);
        b.setLoad(1000);
        Check.due("30 hours", b.hours(30), 65);
        Check.due("the pointer", b.count(3), 10060);
        b.setLoad(100);
        Check.due("back by the step", b.hours(1), 63);
        Check.due("back to the goal", b.hours(200), 10);
        b.set(2, 0);
        b.setLoad(500);
        Check.due("no step", b.hours(200), 10);
        b.set(2, 50);
        b.set(1, 100);
        Check.due("a great step", b.hours(2), 110);
        Check.due("a great rate", b.hours(200), 500);
        b.set(1, 0);
        Check.due("no rate", b.hours(9), 50);
        Check.due("no rate", b.hours(1), 0);
        Check.due("hours leave the account", b.account(), accountOf(b));
    }

    private static long accountOf(SpringBalance b) {
        SpringBalance other = new SpringBalance();
        for (int load : new int[] {59, 1000, 100, 500}) {
            other.setLoad(load);
        }
        Check.due("the same extension", b.count(1), other.count(1));
        return other.account();
    }

    /** A pointer that stands outside its new, smaller dead zone. */
    private static SpringBalance withFarPointer() {
        SpringBalance b = new SpringBalance();
        b.set(0, 200);
        b.setLoad(1000);
        b.setLoad(500);
        b.set(0, 5);
        Check.due("a far pointer", b.count(3), 5200);
        return b;
    }

    private static void promise5PointerComesHourByHour() {
        SpringBalance b = withFarPointer();
        b.hours(1);
        Check.due("after 1 hour", b.count(3), 5007);
        b = withFarPointer();
        b.hours(6);
        Check.due("after 6 hours", b.count(3), 5007);
        b = withFarPointer();
        b.hours(25);
        Check.due("after 25 hours", b.count(3), 5045);
        b = withFarPointer();
        b.set(1, 0);
        b.hours(25);
        Check.due("without any creep", b.count(3), 5200);
    }

    private static void promise6Zero() {
        SpringBalance b = bent();
        b.setLoad(700);
        Check.due("not at 0", b.zero(), IMPOSSIBLE);
        b.hours(3);
        b.setLoad(100);
        b.setLoad(200);
        b.setLoad(0);
        Check.counts("before zero", b, 0, 2400, 6, 2406, 240, 1, -1);
        Check.due("one turn", b.zero(), 1);
        Check.counts("zero", b, 0, 0, 0, 0, 0, 0, 0);
        Check.due("zero account", b.account(), 0);
        Check.due("zero again", b.again(), 0);
        Check.due("no turn", b.zero(), 0);
        b.setLoad(700);
        Check.due("the first way again", b.count(1), 5200);
        Check.due("no turn without a way", b.count(5), 0);
        SpringBalance c = withFarPointer();
        c.setLoad(0);
        Check.due("the pointer is at the dead zone", c.count(3), 5);
        c.zero();
        Check.due("the pointer is put though the reach was 0", c.count(3), 0);
    }

    private static void promise7Undo() {
        SpringBalance b = new SpringBalance();
        Check.due("nothing to undo", b.undo(), IMPOSSIBLE);
        for (int i = 1; i <= 7; i++) {
            b.setLoad(i * 100);
            Check.due("states", b.count(9), Math.min(i, 5));
        }
        for (int i = 4; i >= 0; i--) {
            Check.due("undo", b.undo(), i);
            Check.due("the load then", b.count(0), 200 + i * 100);
        }
        Check.due("nothing to undo", b.undo(), IMPOSSIBLE);
        Check.due("the load stays", b.count(0), 200);
        b.setLoad(900);
        Check.due("a state again", b.count(9), 1);
        Check.due("undo", b.undo(), 0);
        Check.due("the load then", b.count(0), 200);
    }

    private static void promise7EveryChangeIsRecorded() {
        SpringBalance b = new SpringBalance();
        b.addWeight(100, 1, 2, -1);
        b.addWeight(200, 3, 4, 0);
        undone(b, "addWeight", () -> b.addWeight(5, 1, 2, 1));
        undone(b, "removeWeight", () -> b.removeWeight(1));
        b.addWeight(50, 7, 8, 0);
        undone(b, "removeWeight of a middle one", () -> b.removeWeight(1));
        undone(b, "put", () -> b.put(1));
        undone(b, "setLoad", () -> b.setLoad(77));
        undone(b, "setPoint", () -> b.setPoint(500, 700));
        undone(b, "setBreak", () -> b.setBreak(500, 700));
        b.setPoint(500, 700);
        undone(b, "removePoint", () -> b.removePoint(500));
        b.setBreak(500, 300);
        undone(b, "removeBreak", () -> b.removeBreak(1));
        undone(b, "adopt", () -> b.adopt(3));
        undone(b, "set 0", () -> b.set(0, 9));
        undone(b, "set 1", () -> b.set(1, 9));
        undone(b, "set 2", () -> b.set(2, 9));
        b.put(0);
        b.setLoad(800);
        b.setLoad(400);
        b.setLoad(600);
        undone(b, "hours", () -> b.hours(20));
        undone(b, "take", () -> b.take(0));
        undone(b, "setLoad past turns", () -> b.setLoad(1000));
        Check.write(b, "-0;=0;h3;z;+1;+1");
        undone(b, "move", b::move);
        Check.due("why is not undone", b.why(), 2);
        Check.due("the text is not undone", b.count(10), 16);
        b.take(0);
        b.setLoad(0);
        undone(b, "zero", b::zero);
        undone(b, "zero twice", b::zero);
        undone(b, "the same load", () -> b.setLoad(0));
        undone(b, "the same setting", () -> b.set(0, 5));
    }

    private static void undone(SpringBalance b, String call, Runnable change) {
        String before = stateOf(b);
        int states = b.count(9);
        change.run();
        Check.due(call + " is recorded", b.count(9), Math.min(states + 1, 5));
        Check.due(call + " is undone", b.undo(), Math.min(states, 4));
        Check.due(call + " leaves all as it was", stateOf(b).equals(before) ? 1 : 0, 1);
    }

    private static String stateOf(SpringBalance b) {
        StringBuilder state = new StringBuilder();
        for (int what = 0; what <= 15; what++) {
            if (what != 9) {
                state.append(b.count(what)).append(' ');
            }
        }
        state.append(b.account()).append(' ').append(b.again());
        for (int i = 0; i < 9; i++) {
            for (int what = 0; what < 9; what++) {
                state.append(' ').append(b.weight(i, what)).append(' ').append(b.entry(what, i));
                state.append(' ').append(b.turning(i, what));
            }
        }
        return state.toString();
    }

    private static void promise7ErrorsAndQuestionsAreNotRecorded() {
        SpringBalance b = new SpringBalance();
        b.addWeight(100, 0, 0, -1);
        b.setLoad(-1);
        b.put(5);
        b.take(0);
        b.hours(0);
        b.setPoint(0, 0);
        b.removePoint(500);
        b.setBreak(1, 1001);
        b.removeBreak(0);
        b.set(0, 201);
        b.addWeight(0, 0, 0, 0);
        b.removeWeight(1);
        b.adopt(2);
        b.calibration(1, 14);
        b.type('x');
        b.move();
        b.fault();
        b.clearText();
        b.again();
        Check.due("one change alone", b.count(9), 1);
        b.undo();
        Check.due("and it is undone", b.count(7), 0);
    }

    private static void promise8Count() {
        SpringBalance b = new SpringBalance();
        for (int what : new int[] {-1, 16, Integer.MIN_VALUE, Integer.MAX_VALUE}) {
            Check.due("count out of range", b.count(what), INVALID);
        }
        b.setPoint(400, 3000);
        b.setBreak(20, 10);
        b.setBreak(30, 15);
        b.addWeight(100, 0, 0, -1);
        b.addWeight(50, 0, 0, -1);
        b.addWeight(50, 0, 0, -1);
        b.set(0, 7);
        b.set(1, 20);
        b.set(2, 3);
        b.put(0);
        b.put(2);
        b.setLoad(400);
        b.hours(2);
        b.setLoad(300);
        b.type('z');
        Check.counts("all", b, 300, 2250, 6, 2263, 235, 1, -1, 3, 2, 5, 1, 3, 4, 7, 20, 3);
    }

    private static void promise9Turning() {
        SpringBalance b = bent();
        b.setLoad(700);
        b.setLoad(400);
        b.setLoad(500);
        Check.due("turning(0, 0)", b.turning(0, 0), 700);
        Check.due("turning(0, 1)", b.turning(0, 1), 5200);
        Check.due("turning(1, 0)", b.turning(1, 0), 400);
        Check.due("turning(1, 1)", b.turning(1, 1), 4000);
        Check.due("turning(2, 0)", b.turning(2, 0), MISSING);
        Check.due("turning(MAX, 1)", b.turning(Integer.MAX_VALUE, 1), MISSING);
        Check.due("turning(-1, 0)", b.turning(-1, 0), INVALID);
        Check.due("turning(MIN, 0)", b.turning(Integer.MIN_VALUE, 0), INVALID);
        Check.due("turning(0, 2)", b.turning(0, 2), INVALID);
        Check.due("turning(0, -1)", b.turning(0, -1), INVALID);
        Check.due("turning(9, 2)", b.turning(9, 2), INVALID);
    }

    private static void promise10Account() {
        SpringBalance b = bent();
        b.setLoad(700);
        Check.due("700 * 5200", b.account(), 3640000);
        b.hours(100);
        b.setLoad(700);
        Check.due("no other load", b.account(), 3640000);
        b.setLoad(400);
        Check.due("- 1100 * 1200", b.account(), 2320000);
        b.setLoad(700);
        Check.due("+ 1100 * 1200", b.account(), 3640000);
        b.setLoad(400);
        b.setLoad(0);
        Check.due("- 400 * 1600", b.account(), 1680000);
    }

    private static void promise10AccountIsLong() {
        SpringBalance b = new SpringBalance();
        b.setPoint(1000, 20000);
        b.setPoint(1, 19000);
        b.setLoad(1000);
        for (int i = 0; i < 150; i++) {
            b.setLoad(0);
            Check.due("20000 - F(1000)", b.count(1), -18998);
            Check.due("below the scale", b.count(4), 0);
            b.setLoad(1);
            b.setLoad(1000);
        }
        Check.due("the pointer", b.count(3), 19995);
        Check.due("150 loops", b.account(), 20000000L - 150L * 18961002L);
    }

    private static void promise11Again() {
        SpringBalance b = new SpringBalance();
        b.setPoint(300, 5000);
        b.setPoint(700, 6000);
        for (int load : new int[] {900, 100, 800, 150, 777, 333, 334, 333, 777, 150, 899, 0, 900, 950}) {
            b.setLoad(load);
            Check.due("again at " + load, b.again(), b.count(1));
        }
        b.hours(50);
        Check.due("without the creep", b.again(), 9333);
        b.setLoad(650);
        Check.due("9333 - F(300)", b.again(), 4333);
        b.setLoad(651);
        Check.due("9333 - F(300) + F(1)", b.again(), 4349);
    }

    /** As many turns as the calls of an object can make, all kept. */
    private static void manyTurns() {
        SpringBalance b = new SpringBalance();
        for (int i = 0; i < 250; i++) {
            b.setLoad(1000 - i);
            b.setLoad(i);
        }
        Check.due("turns", b.count(5), 499);
        Check.due("the last one", b.turning(498, 0), 751);
        Check.due("again", b.again(), b.count(1));
        b.setLoad(500);
        b.undo();
        Check.due("turns of a state", b.count(5), 499);
        b.setLoad(1000);
        Check.due("all forgotten", b.count(5), 0);
    }
}
