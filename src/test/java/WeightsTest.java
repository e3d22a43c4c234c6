/** Promises 21 to 25. */
public final class WeightsTest {
    private static final int INVALID = SpringBalance.INVALID_ARGUMENT;
    private static final int IMPOSSIBLE = SpringBalance.NOT_POSSIBLE;
    private static final int LIMIT = SpringBalance.LIMIT_REACHED;
    private static final int MISSING = SpringBalance.NOT_FOUND;

    public static void main(String[] args) {
        promise21AddWeight();
        promise22RemoveWeight();
        promise22NumbersDecrease();
        promise23Weight();
        promise23LongestChain();
        promise24CalibrationErrors();
        promise24Calibration();
        promise24OfABentSpring();
        promise24OfABalanceInUse();
        promise24NoScale();
        promise25Adopt();
        promise25AdoptErrors();
        Check.finish();
    }

    private static void promise21AddWeight() {
        SpringBalance b = new SpringBalance();
        int[][] wrong = {{0, 0, 0, -1}, {501, 0, 0, -1}, {1, -10, 0, -1}, {1, 10, 0, -1}, {1, 0, -1, -1},
            {1, 0, 1001, -1}, {1, 0, 0, -2}, {1, 0, 0, 0}, {Integer.MAX_VALUE, 0, 0, -1},
            {1, Integer.MIN_VALUE, 0, -1}, {1, 0, Integer.MAX_VALUE, -1}, {1, 0, 0, Integer.MIN_VALUE}};
        for (int[] w : wrong) {
            Check.due("addWeight out of range", b.addWeight(w[0], w[1], w[2], w[3]), INVALID);
        }
        Check.due("the least", b.addWeight(1, -9, 0, -1), 0);
        Check.due("the greatest", b.addWeight(500, 9, 1000, 0), 1);
        Check.due("a parent that is not there", b.addWeight(1, 0, 0, 2), INVALID);
        for (int i = 2; i < 8; i++) {
            Check.due("weight " + i, b.addWeight(i, 0, 0, i - 1), i);
        }
        Check.due("a ninth", b.addWeight(1, 0, 0, 7), LIMIT);
        Check.due("a ninth out of range", b.addWeight(1, 0, 0, 8), INVALID);
        b.removeWeight(7);
        Check.due("an eighth again", b.addWeight(1, 0, 0, 0), 7);
    }

    private static void promise22RemoveWeight() {
        SpringBalance b = new SpringBalance();
        Check.due("none there", b.removeWeight(0), INVALID);
        b.addWeight(100, 0, 0, -1);
        b.addWeight(200, 0, 0, 0);
        b.addWeight(300, 0, 0, -1);
        for (int weight : new int[] {-1, 3, Integer.MIN_VALUE, Integer.MAX_VALUE}) {
            Check.due("no such weight", b.removeWeight(weight), INVALID);
        }
        Check.due("a parent", b.removeWeight(0), IMPOSSIBLE);
        b.put(1);
        b.put(2);
        Check.due("on the pan", b.removeWeight(1), IMPOSSIBLE);
        Check.due("on the pan", b.removeWeight(2), IMPOSSIBLE);
        b.take(1);
        Check.due("from the pan", b.removeWeight(1), 2);
        Check.due("a parent no more", b.removeWeight(0), 1);
        Check.due("the other stays on the pan", b.count(8), 1);
        Check.due("the other stays on the pan", b.take(0), 0);
        Check.due("the last one", b.removeWeight(0), 0);
    }

    private static void promise22NumbersDecrease() {
        SpringBalance b = new SpringBalance();
        b.addWeight(11, 1, 10, -1);
        b.addWeight(12, 2, 20, -1);
        b.addWeight(13, 3, 30, 0);
        b.addWeight(14, 4, 40, 2);
        b.addWeight(15, 5, 50, 2);
        b.put(4);
        Check.due("removed", b.removeWeight(1), 4);
        int[][] due = {{11, 1, 10, -1, 0, 1, 10, 1, 4}, {13, 3, 30, 0, 0, 4, 40, 2, 3}, {14, 4, 40, 1, 0, 8, 80, 3, 1},
            {15, 5, 50, 1, 1, 9, 90, 3, 1}};
        properties(b, due);
        Check.due("put the later one", b.put(2), 28);
        Check.due("its mass", b.count(0), 29);
        Check.due("a new one is clean", b.addWeight(7, 0, 0, -1), 4);
        Check.due("a new one is not on the pan", b.weight(4, 4), 0);
    }

    private static void properties(SpringBalance b, int[][] due) {
        for (int i = 0; i < due.length; i++) {
            for (int what = 0; what < due[i].length; what++) {
                Check.due("weight(" + i + ", " + what + ")", b.weight(i, what), due[i][what]);
            }
        }
    }

    private static void promise23Weight() {
        SpringBalance b = new SpringBalance();
        b.addWeight(100, 2, 10, -1);
        b.addWeight(200, -3, 20, 0);
        b.addWeight(300, -9, 5, 1);
        b.addWeight(50, 0, 0, 0);
        b.put(1);
        int[][] due = {{100, 2, 10, -1, 0, 2, 10, 1, 4}, {200, -3, 20, 0, 1, -1, 30, 2, 2},
            {300, -9, 5, 1, 0, -10, 35, 3, 1}, {50, 0, 0, 0, 0, 2, 10, 2, 1}};
        properties(b, due);
        int[][] wrong = {{4, 0}, {-1, 0}, {0, -1}, {0, 9}, {Integer.MAX_VALUE, 0}, {0, Integer.MIN_VALUE}};
        for (int[] w : wrong) {
            Check.due("weight out of range", b.weight(w[0], w[1]), INVALID);
        }
    }

    private static void promise23LongestChain() {
        SpringBalance b = new SpringBalance();
        for (int i = 0; i < 8; i++) {
            b.addWeight(1 + i, i - 9, 1000, i - 1);
        }
        int[][] due = {{1, -9, 1000, -1, 0, -9, 1000, 1, 8}, {2, -8, 1000, 0, 0, -17, 2000, 2, 7}};
        properties(b, due);
        int[] last = {8, -2, 1000, 6, 0, -44, 8000, 8, 1};
        for (int what = 0; what < last.length; what++) {
            Check.due("weight(7, " + what + ")", b.weight(7, what), last[what]);
        }
        Check.due("all of the last five", b.calibration(248, 13), 4000 + 5000 + 6000 + 7000 + 8000);
    }

    private static void promise24CalibrationErrors() {
        SpringBalance b = new SpringBalance();
        Check.due("no weights", b.calibration(1, 0), INVALID);
        for (int i = 0; i < 8; i++) {
            b.addWeight(i == 6 ? 500 : 200, 0, 0, -1);
        }
        int[][] wrong = {{0, 0}, {-1, 0}, {256, 0}, {257, 0}, {63, 0}, {255, 0}, {1, -1}, {1, 15}, {0, 15},
            {Integer.MIN_VALUE, 0}, {Integer.MAX_VALUE, 0}, {1, Integer.MAX_VALUE}};
        for (int[] w : wrong) {
            Check.due("calibration(" + w[0] + ", " + w[1] + ")", b.calibration(w[0], w[1]), INVALID);
        }
        Check.due("exactly 1000", b.calibration(31, 14), 1);
        Check.due("exactly 1000", b.calibration(62, 5), 9995);
        Check.due("more than 1000", b.calibration(64 + 7, 14), IMPOSSIBLE);
        Check.due("more than 1000, not so many", b.calibration(64 + 7, 5), IMPOSSIBLE);
        Check.due("more than 1000, out of range", b.calibration(64 + 7, 15), INVALID);
        b.removeWeight(6);
        b.addWeight(201, 0, 0, -1);
        Check.due("exactly 1001", b.calibration(128 + 15, 14), IMPOSSIBLE);
        Check.due("not so many going up", b.calibration(3, 3), MISSING);
        Check.due("not so many coming down", b.calibration(3, 9), MISSING);
        b.put(1);
        Check.due("on the pan", b.calibration(3, 14), IMPOSSIBLE);
        Check.due("on the pan, not so many", b.calibration(3, 3), IMPOSSIBLE);
        Check.due("on the pan, out of range", b.calibration(3, -1), INVALID);
        Check.due("another one is on the pan", b.calibration(5, 14), 1);
        Check.due("nothing changes", b.count(9), 5);
        Check.due("nothing changes", b.count(0), 200);
    }

    private static void answers(SpringBalance b, int set, int... due) {
        for (int what = 0; what < due.length; what++) {
            Check.due("calibration(" + set + ", " + what + ")", b.calibration(set, what), due[what]);
        }
    }

    private static void promise24Calibration() {
        SpringBalance b = new SpringBalance();
        b.addWeight(100, 2, 10, -1);
        b.addWeight(500, 0, 1000, -1);
        b.addWeight(300, -4, 7, 0);
        answers(b, 5, 0, 995, 3995, MISSING, MISSING, MISSING, 5, 1005, 3995, MISSING, MISSING, MISSING, 10, 27, 1);
        answers(b, 4, 0, 2995, MISSING, MISSING, MISSING, MISSING, 5, 2995, MISSING, MISSING, MISSING, MISSING, 5, 17,
            1);
        b.set(0, 200);
        answers(b, 5, 0, 800, 3800, MISSING, MISSING, MISSING, 200, 1200, 3800, MISSING, MISSING, MISSING, 400, 27, 1);
        b.set(0, 0);
        answers(b, 5, 0, 1000, 4000, MISSING, MISSING, MISSING, 0, 1000, 4000, MISSING, MISSING, MISSING, 0, 27, 1);
    }

    /** V is 38 * w up to 500; F is 38 * d, so that the way down leads below the way up. */
    private static void promise24OfABentSpring() {
        SpringBalance b = new SpringBalance();
        b.set(0, 0);
        b.setPoint(1000, 20000);
        b.setPoint(500, 19000);
        b.addWeight(500, 0, 1, -1);
        b.addWeight(500, 0, 1, -1);
        answers(b, 3, 0, 19000, 20000, MISSING, MISSING, MISSING, -18000, 1000, 20000, MISSING, MISSING, MISSING, 0, 2,
            0);
        for (int i = 0; i < 5; i++) {
            b.addWeight(200, 0, 0, -1);
        }
        Check.due("coming down is below going up but for all of them", b.calibration(124, 12), 0);
        SpringBalance c = new SpringBalance();
        c.set(0, 0);
        c.setPoint(500, 2000);
        c.addWeight(500, 0, 1, -1);
        c.addWeight(500, 0, 1, -1);
        answers(c, 3, 0, 2000, 10000, MISSING, MISSING, MISSING, 6000, 8000, 10000, MISSING, MISSING, MISSING, 6000, 2,
            1);
        Check.due("adopt", c.adopt(3), 3);
        Check.due("the middle", c.entry(2, 0), 3000);
        Check.due("the middle", c.entry(2, 1), 5000);
    }

    private static void promise24OfABalanceInUse() {
        SpringBalance b = new SpringBalance();
        b.addWeight(100, 2, 10, -1);
        b.addWeight(300, -4, 7, 0);
        b.addWeight(50, 0, 0, -1);
        b.put(2);
        b.setLoad(900);
        b.hours(100);
        b.setLoad(200);
        b.setLoad(600);
        long account = b.account();
        answers(b, 3, 0, 995, 3995, MISSING, MISSING, MISSING, 5, 1005, 3995, MISSING, MISSING, MISSING, 10, 27, 1);
        Check.counts("as it was", b, 600, 6000, 90, 6085, 608, 2, 1, 3, 1, 5);
        Check.due("as it was", b.account(), account);
        Check.due("adopt", b.adopt(3), 3);
        Check.counts("but for the scale", b, 600, 6000, 90, 6085, 398, 2, 1, 3, 1, 5);
    }

    private static void promise24NoScale() {
        SpringBalance b = new SpringBalance();
        b.addWeight(9, -9, 0, -1);
        b.addWeight(10, -9, 0, -1);
        b.addWeight(500, 9, 0, -1);
        b.addWeight(500, -9, 0, -1);
        b.addWeight(491, 0, 0, -1);
        b.addWeight(492, 0, 0, -1);
        Check.due("a told sum of 0", b.calibration(1, 14), 0);
        Check.due("a told sum of 1", b.calibration(2, 14), 1);
        Check.due("a told sum of 1000", b.calibration(4 + 16, 14), 1);
        Check.due("a told sum of 1001", b.calibration(4 + 32, 14), 0);
        Check.due("a told sum of 1000", b.calibration(4 + 8, 14), 1);
        b.set(0, 200);
        Check.due("the pointer stands still", b.calibration(2, 1), 0);
        Check.due("equal places", b.calibration(2, 14), 0);
        b.set(0, 0);
        b.setPoint(1, 2500);
        Check.due("too low", b.calibration(4, 6), -2492);
        Check.due("a middle of -1246", b.calibration(4, 14), 0);
        b.setPoint(1, 2008);
        Check.due("-2000", b.calibration(4, 6), -2000);
        Check.due("a middle of -1000", b.calibration(4, 14), 1);
        b.setPoint(1, 2009);
        Check.due("-2001", b.calibration(4, 6), -2001);
        Check.due("a middle of -1001, as rounded down", b.calibration(4, 14), 0);
    }

    private static void promise25Adopt() {
        SpringBalance b = new SpringBalance();
        b.addWeight(100, 2, 10, -1);
        b.addWeight(200, -3, 20, 0);
        b.addWeight(300, 9, 5, 1);
        b.addWeight(50, 0, 0, 2);
        b.addWeight(60, 0, 0, 2);
        Check.due("five weights", b.adopt(31), 6);
        int[][] due = {{2, 0}, {1000, 102}, {3000, 299}, {6000, 608}, {6500, 658}, {7095, 718}};
        for (int i = 0; i < 6; i++) {
            Check.due("place " + i, b.entry(2, i), due[i][0]);
            Check.due("reading " + i, b.entry(3, i), due[i][1]);
        }
        Check.due("one weight", b.adopt(2), 2);
        Check.due("the end", b.entry(2, 1), 1995);
        Check.due("the end", b.entry(3, 1), 197);
        Check.due("no more", b.entry(2, 2), MISSING);
        Check.due("the reading", b.setLoad(100), 98);
    }

    private static void promise25AdoptErrors() {
        SpringBalance b = new SpringBalance();
        Check.due("no weights", b.adopt(1), INVALID);
        b.addWeight(9, -9, 0, -1);
        b.addWeight(500, 0, 0, -1);
        b.addWeight(500, 0, 0, -1);
        b.addWeight(5, 0, 0, -1);
        for (int i = 4; i < 8; i++) {
            b.addWeight(1, 0, 0, -1);
        }
        for (int set : new int[] {0, -1, 256, 63, Integer.MIN_VALUE, Integer.MAX_VALUE}) {
            Check.due("adopt(" + set + ")", b.adopt(set), INVALID);
        }
        Check.due("no scale", b.adopt(1), IMPOSSIBLE);
        Check.due("more than 1000", b.adopt(2 + 4 + 8), IMPOSSIBLE);
        b.put(1);
        Check.due("on the pan", b.adopt(2), IMPOSSIBLE);
        Check.due("on the pan, six of them", b.adopt(63), INVALID);
        Check.due("the scale stays", b.entry(2, 1), 10000);
        Check.due("another one", b.adopt(4), 2);
    }
}
