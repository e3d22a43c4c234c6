/** Promises 26 to 30. */
public final class TextsTest {
    private static final int INVALID = SpringBalance.INVALID_ARGUMENT;
    private static final int IMPOSSIBLE = SpringBalance.NOT_POSSIBLE;
    private static final int LIMIT = SpringBalance.LIMIT_REACHED;
    private static final int MISSING = SpringBalance.NOT_FOUND;

    public static void main(String[] args) {
        promise26Type();
        promise27ClearText();
        promise28NoFault();
        promise28Fault();
        promise28FaultBehindMoves();
        promise28LongestText();
        promise29Move();
        promise29MoveStopsAtTheRefusedOne();
        promise29PointerFollowsEachMove();
        promise29Errors();
        promise29ZeroInTheText();
        promise30Why();
        promise30WhyStays();
        Check.finish();
    }

    private static void promise26Type() {
        SpringBalance b = new SpringBalance();
        for (int character : new int[] {31, 127, -1, 0, 65536 + 43, Integer.MIN_VALUE, Integer.MAX_VALUE}) {
            Check.due("type out of range", b.type(character), INVALID);
        }
        for (int i = 1; i <= 80; i++) {
            Check.due("type " + i, b.type(i % 2 == 0 ? 32 : 126), i);
        }
        Check.due("the 81st", b.type('z'), LIMIT);
        Check.due("the 81st out of range", b.type(127), INVALID);
        Check.due("the length", b.count(10), 80);
        Check.due("typing is no change", b.count(9), 0);
    }

    private static void promise27ClearText() {
        SpringBalance b = new SpringBalance();
        Check.due("empty", b.clearText(), 0);
        Check.write(b, "z;z");
        Check.due("3 characters", b.clearText(), 3);
        Check.due("empty", b.count(10), 0);
        Check.due("empty", b.clearText(), 0);
        Check.write(b, "h");
        Check.due("nothing is left of it", b.fault(), 0);
        Check.due("clearing is no change", b.count(9), 0);
    }

    private static void faults(int position, String... texts) {
        for (String text : texts) {
            SpringBalance b = new SpringBalance();
            Check.write(b, text);
            Check.due("fault of " + text, b.fault(), position);
            Check.due("move of " + text, b.move(), position == MISSING ? b.move() : IMPOSSIBLE);
        }
    }

    private static void promise28NoFault() {
        faults(MISSING, "", "z", "+0", "+9", "-0", "-9", "=0", "=00", "=000", "=0000", "=1000", "=0999", "=7", "h1",
            "h01", "h001", "h200", "h99", "z;z", "+1;-1", "=1000;h200;z;+9;-0", "h1;h2;h3", "=1;=12;=123;=0123");
    }

    private static void promise28Fault() {
        faults(0, "+", "-", "=", "h", ";", " ", "0", "x", "Z", "H1", "+:", "+/", "-a", "=a", "h;", "+;1", "=;1", "h0",
            "h00", "h000", "h201", "h999", "h0001", "h1000", "=1001", "=9999", "=00000", "=01000", "=10000", "+10",
            "-00", "z0", "zz", "z;", "+0;", "=5;", "h5;", "z ", "z ;z", " z", "z, z", "+-1", "=+1", "=-1", "h-1",
            "--1", "=1 ", "h1h1", "=1=1", "z:z", "*0", ",0", "h20:", "=5/");
    }

    private static void promise28FaultBehindMoves() {
        faults(2, "z;;", "z;;z", "z;+", "z; z", "z;z;", "z;z0", "z;h0", "z;=1001", "z;h201;=1001");
        faults(3, "+0;+", "-1;zz", "h1;h0;h0");
        faults(6, "=1000;=1001", "=1000;x");
        faults(7, "h1;=12;=12345;z", "z;=0;z;h500");
    }

    private static void promise28LongestText() {
        String moves = "=1;".repeat(26);
        faults(MISSING, moves + "=1");
        faults(78, moves + "=", moves + "=a", moves + "z;");
        SpringBalance b = new SpringBalance();
        Check.write(b, moves + "=1");
        Check.due("27 moves", b.move(), 27);
    }

    private static void promise29Move() {
        SpringBalance b = new SpringBalance();
        b.addWeight(100, 0, 1, -1);
        b.addWeight(250, 0, 1, 0);
        Check.write(b, "+0;+1;h20;-0;=0900;=300;h005");
        Check.due("all of them", b.move(), 7);
        Check.counts("after the moves", b, 300, 3000, 30, 3035, 303, 1, -1, 2, 1, 3, 28);
        Check.due("the account", b.account(), 350L * 3500 - 600L * 1000 + 1150L * 6500 - 1200L * 6000);
        Check.due("they are one change", b.undo(), 2);
        Check.counts("before the moves", b, 0, 0, 0, 0, 0, 0, 0, 2, 0, 2, 28);
        Check.due("the text stays", b.move(), 7);
        Check.due("+0 from there", b.move(), 1);
        Check.due("+1 is on the pan", b.why(), 2);
        Check.due("the load", b.count(0), 400);
    }

    private static void promise29MoveStopsAtTheRefusedOne() {
        SpringBalance b = new SpringBalance();
        b.addWeight(100, 0, 0, -1);
        Check.write(b, "=500;+0;+0;=700");
        Check.due("two moves", b.move(), 2);
        Check.counts("after two moves", b, 600, 6000, 0, 5995);
        Check.due("one change", b.count(9), 2);
        Check.write(b, "z;=700");
        Check.due("no move", b.move(), 0);
        Check.due("a change too", b.count(9), 3);
        b.undo();
        Check.due("it was nothing", b.count(0), 600);
        b.undo();
        Check.due("two moves undone", b.count(0), 0);
        b.clearText();
        Check.due("the empty text", b.move(), 0);
        Check.due("a change too", b.count(9), 2);
    }

    /** Each move drags the pointer as a call would, also if the reach comes back within one text. */
    private static void promise29PointerFollowsEachMove() {
        SpringBalance b = new SpringBalance();
        Check.write(b, "=500;=0");
        b.move();
        Check.due("up and down in one text", b.count(3), 5);
        SpringBalance c = new SpringBalance();
        c.setLoad(500);
        c.setLoad(0);
        Check.due("up and down in two calls", c.count(3), 5);
    }

    private static void promise29Errors() {
        SpringBalance b = new SpringBalance();
        Check.write(b, "=500;=5000");
        Check.due("a fault", b.move(), IMPOSSIBLE);
        Check.due("no move is carried out", b.count(0), 0);
        Check.due("no change", b.count(9), 0);
        Check.due("no reason", b.why(), 0);
    }

    private static void promise29ZeroInTheText() {
        SpringBalance b = new SpringBalance();
        b.setLoad(500);
        b.hours(10);
        Check.write(b, "=200;=0;z;=100;h1");
        Check.due("all of them", b.move(), 5);
        Check.counts("after the moves", b, 100, 1000, 2, 997, 99, 0, 1);
        Check.due("the account from zero", b.account(), 100000);
    }

    private static void reason(SpringBalance b, String text, int moves, int why) {
        Check.write(b, text);
        Check.due("move of " + text, b.move(), moves);
        Check.due("why of " + text, b.why(), why);
    }

    private static void promise30Why() {
        SpringBalance b = new SpringBalance();
        b.addWeight(400, 0, 0, -1);
        b.addWeight(300, 0, 0, -1);
        reason(b, "=500;h3;=0;z", 4, 0);
        reason(b, "+2", 0, 1);
        reason(b, "+0;+0", 1, 2);
        reason(b, "z", 0, 5);
        reason(b, "-1", 0, 2);
        reason(b, "-9", 0, 1);
        reason(b, "=399", 0, 4);
        reason(b, "=701;+1", 1, 3);
        reason(b, "=700;+1", 2, 3);
        reason(b, "=1000;=699", 1, 4);
        reason(b, "=999;+0", 1, 2);
        reason(b, "-1;-0;=0;z;+7", 4, 1);
    }

    private static void promise30WhyStays() {
        SpringBalance b = new SpringBalance();
        b.addWeight(400, 0, 0, -1);
        reason(b, "=700;+0", 1, 3);
        reason(b, "=0;+0;-0;h1", 4, 3);
        b.put(7);
        b.take(0);
        b.put(0);
        b.setLoad(5);
        b.zero();
        Check.due("other methods do not count", b.why(), 3);
        b.undo();
        b.undo();
        b.undo();
        Check.due("undo does not alter it", b.why(), 3);
        b.clearText();
        Check.due("nor does clearText", b.why(), 3);
        Check.write(b, "+9;h0");
        Check.due("a fault", b.move(), IMPOSSIBLE);
        Check.due("nor does a fault", b.why(), 3);
    }
}
