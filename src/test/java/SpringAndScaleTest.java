/** Promises 12 to 20. */
public final class SpringAndScaleTest {
    private static final int INVALID = SpringBalance.INVALID_ARGUMENT;
    private static final int IMPOSSIBLE = SpringBalance.NOT_POSSIBLE;
    private static final int LIMIT = SpringBalance.LIMIT_REACHED;
    private static final int MISSING = SpringBalance.NOT_FOUND;

    public static void main(String[] args) {
        promise12SetPoint();
        promise12LimitAndOrder();
        promise12OnlyUnturnedAtZero();
        promise13RemovePoint();
        promise14Curve();
        promise15SetBreak();
        promise16RemoveBreak();
        promise17Entry();
        promise18ReadingAt();
        promise18ReadingBeyondThePlaces();
        promise19SlopeBits();
        promise19AllRatios();
        promise20Set();
        Check.finish();
    }

    private static void promise12SetPoint() {
        SpringBalance b = new SpringBalance();
        int[][] wrong = {{0, 5}, {1001, 5}, {-1, 5}, {5, 0}, {5, 20001}, {Integer.MIN_VALUE, 1}, {1, Integer.MAX_VALUE}};
        for (int[] w : wrong) {
            Check.due("setPoint out of range", b.setPoint(w[0], w[1]), INVALID);
        }
        Check.due("a new point", b.setPoint(500, 3000), 3);
        Check.due("in its place", b.setPoint(500, 4000), 3);
        Check.due("it is replaced", b.entry(1, 1), 4000);
        Check.due("as the one before", b.setPoint(600, 4000), IMPOSSIBLE);
        Check.due("as the one behind", b.setPoint(400, 4000), IMPOSSIBLE);
        Check.due("more than the one behind", b.setPoint(400, 4001), IMPOSSIBLE);
        Check.due("less than the one behind", b.setPoint(400, 3999), 4);
        Check.due("more than the one before", b.setPoint(600, 4001), 5);
        Check.due("replaced too high", b.setPoint(500, 4001), IMPOSSIBLE);
        Check.due("replaced too low", b.setPoint(500, 3999), IMPOSSIBLE);
        Check.due("the end", b.setPoint(1000, 20000), 5);
        Check.due("the end too low", b.setPoint(1000, 4001), IMPOSSIBLE);
        Check.due("the end just right", b.setPoint(1000, 4002), 5);
        Check.due("the first load", b.setPoint(1, 1), 6);
        Check.due("the last load", b.entry(0, 5), 1000);
        Check.due("the beginning stays", b.entry(0, 0) + b.entry(1, 0), 0);
    }

    private static void promise12LimitAndOrder() {
        SpringBalance b = new SpringBalance();
        for (int i = 1; i <= 6; i++) {
            Check.due("point " + i, b.setPoint(i * 100, i * 1000), i + 2);
        }
        Check.due("a ninth", b.setPoint(50, 500), LIMIT);
        Check.due("a ninth that does not rise", b.setPoint(50, 1000), IMPOSSIBLE);
        Check.due("a ninth out of range", b.setPoint(50, 0), INVALID);
        Check.due("one of the eight", b.setPoint(300, 3500), 8);
        b.setLoad(5);
        Check.due("a ninth at a load", b.setPoint(50, 500), IMPOSSIBLE);
        Check.due("out of range at a load", b.setPoint(0, 500), INVALID);
    }

    private static void promise12OnlyUnturnedAtZero() {
        SpringBalance b = new SpringBalance();
        b.setLoad(5);
        Check.due("at a load without turns", b.setPoint(500, 3000), IMPOSSIBLE);
        b.hours(1);
        b.setLoad(0);
        Check.due("at 0 with a turn", b.setPoint(500, 3000), IMPOSSIBLE);
        b.zero();
        Check.due("at 0 without a turn", b.setPoint(500, 3000), 3);
        b.setLoad(250);
        Check.due("the new curve", b.count(1), 1500);
    }

    private static void promise13RemovePoint() {
        SpringBalance b = new SpringBalance();
        for (int load : new int[] {0, 1000, -1, 1001, Integer.MIN_VALUE, Integer.MAX_VALUE}) {
            Check.due("removePoint out of range", b.removePoint(load), INVALID);
        }
        Check.due("no point", b.removePoint(500), MISSING);
        b.setPoint(1, 7);
        b.setPoint(500, 3000);
        b.setPoint(999, 9000);
        b.setLoad(5);
        Check.due("at a load", b.removePoint(500), IMPOSSIBLE);
        Check.due("at a load, no point", b.removePoint(501), IMPOSSIBLE);
        Check.due("at a load, out of range", b.removePoint(0), INVALID);
        b.setLoad(0);
        Check.due("with a turn", b.removePoint(500), IMPOSSIBLE);
        b.zero();
        Check.due("the middle one", b.removePoint(500), 3000);
        Check.due("it is gone", b.removePoint(500), MISSING);
        Check.due("the last one", b.removePoint(999), 9000);
        Check.due("the first one", b.removePoint(1), 7);
        Check.due("two are left", b.count(11), 2);
        Check.due("V(500)", b.curve(0, 500), 5000);
    }

    private static void promise14Curve() {
        SpringBalance b = new SpringBalance();
        int[][] wrong = {{-1, 5}, {2, 5}, {0, -1}, {1, 1001}, {0, Integer.MAX_VALUE}, {1, Integer.MIN_VALUE}};
        for (int[] w : wrong) {
            Check.due("curve out of range", b.curve(w[0], w[1]), INVALID);
        }
        b.setPoint(300, 100);
        b.setPoint(700, 9999);
        b.setPoint(1000, 20000);
        int[][] due = {{0, 0, 0}, {1, 0, 0}, {99, 33, 33}, {300, 100, 100}, {301, 124, 100}, {599, 7499, 199},
            {600, 7524, 200}, {601, 7548, 224}, {699, 9974, 2650}, {700, 9999, 2674}, {701, 10032, 2699},
            {1000, 20000, 10099}};
        for (int[] d : due) {
            Check.due("V(" + d[0] + ")", b.curve(0, d[0]), d[1]);
            Check.due("F(" + d[0] + ")", b.curve(1, d[0]), d[2]);
        }
        b.setLoad(500);
        Check.due("V at a load", b.curve(0, 300), 100);
    }

    private static void promise15SetBreak() {
        SpringBalance b = new SpringBalance();
        int[][] wrong = {{-1001, 5}, {30001, 5}, {5, -1}, {5, 1001}, {Integer.MIN_VALUE, 1}, {1, Integer.MAX_VALUE}};
        for (int[] w : wrong) {
            Check.due("setBreak out of range", b.setBreak(w[0], w[1]), INVALID);
        }
        Check.due("below 0", b.setBreak(-1000, 0), IMPOSSIBLE);
        Check.due("above 1000", b.setBreak(30000, 1000), IMPOSSIBLE);
        Check.due("in its place", b.setBreak(0, 100), 2);
        Check.due("the first place", b.setBreak(-1000, 0), 3);
        Check.due("in its place", b.setBreak(10000, 900), 3);
        Check.due("the last place", b.setBreak(30000, 1000), 4);
        Check.due("as the one before", b.setBreak(500, 100), IMPOSSIBLE);
        Check.due("as the one behind", b.setBreak(500, 900), IMPOSSIBLE);
        Check.due("between them", b.setBreak(500, 500), 5);
        Check.due("between them", b.setBreak(501, 501), 6);
        Check.due("a seventh", b.setBreak(502, 502), LIMIT);
        Check.due("a seventh that does not rise", b.setBreak(502, 501), IMPOSSIBLE);
        Check.due("a seventh out of range", b.setBreak(502, 1001), INVALID);
        Check.due("one of the six", b.setBreak(501, 899), 6);
        b.setLoad(50);
        b.setLoad(60);
        Check.due("the scale is set at a load", b.setBreak(501, 600), 6);
        Check.due("the reading is that at the pointer", b.count(4), 602);
    }

    private static void promise16RemoveBreak() {
        SpringBalance b = new SpringBalance();
        Check.due("of 2", b.removeBreak(0), IMPOSSIBLE);
        Check.due("of 2", b.removeBreak(1), IMPOSSIBLE);
        for (int index : new int[] {2, -1, Integer.MIN_VALUE, Integer.MAX_VALUE}) {
            Check.due("no such break", b.removeBreak(index), INVALID);
        }
        b.setBreak(1000, 50);
        b.setBreak(2000, 60);
        Check.due("no such break of 4", b.removeBreak(4), INVALID);
        Check.due("a middle one", b.removeBreak(1), 3);
        Check.due("the next came there", b.entry(2, 1), 2000);
        Check.due("the last one", b.removeBreak(2), 2);
        Check.due("above the last one now", b.readingAt(3000), 60);
        b.setBreak(3000, 70);
        Check.due("the first one", b.removeBreak(0), 2);
        Check.due("below the first one now", b.readingAt(0), 60);
    }

    private static void promise17Entry() {
        SpringBalance b = new SpringBalance();
        b.setPoint(123, 456);
        b.setBreak(-7, 0);
        b.setBreak(0, 8);
        Check.due("nothing of that is possible", b.entry(2, 0), 0);
        b.setBreak(77, 88);
        int[][] due = {{0, 123, 1000}, {0, 456, 10000}, {0, 77, 10000}, {8, 88, 1000}};
        for (int what = 0; what < 4; what++) {
            for (int index = 0; index < 3; index++) {
                Check.due("entry(" + what + ", " + index + ")", b.entry(what, index), due[what][index]);
            }
            Check.due("entry(" + what + ", 3)", b.entry(what, 3), MISSING);
            Check.due("entry(" + what + ", MAX)", b.entry(what, Integer.MAX_VALUE), MISSING);
            Check.due("entry(" + what + ", -1)", b.entry(what, -1), INVALID);
        }
        Check.due("entry(4, 0)", b.entry(4, 0), INVALID);
        Check.due("entry(-1, 0)", b.entry(-1, 0), INVALID);
        Check.due("entry(4, 9)", b.entry(4, 9), INVALID);
    }

    private static void promise18ReadingAt() {
        SpringBalance b = new SpringBalance();
        for (int place : new int[] {-1001, 30001, Integer.MIN_VALUE, Integer.MAX_VALUE}) {
            Check.due("readingAt out of range", b.readingAt(place), INVALID);
        }
        b.setBreak(0, 10);
        b.setBreak(-100, 5);
        b.setBreak(10000, 999);
        int[][] due = {{-1000, 5}, {-101, 5}, {-100, 5}, {-81, 5}, {-80, 6}, {-1, 9}, {0, 10}, {10, 10}, {11, 11},
            {5000, 504}, {9999, 998}, {10000, 999}, {10001, 999}, {30000, 999}};
        for (int[] d : due) {
            Check.due("readingAt(" + d[0] + ")", b.readingAt(d[0]), d[1]);
        }
    }

    private static void promise18ReadingBeyondThePlaces() {
        SpringBalance b = new SpringBalance();
        b.setPoint(1000, 20000);
        b.setPoint(1, 19000);
        b.setBreak(0, 50);
        b.setBreak(-1000, 3);
        b.setLoad(1000);
        Check.due("above the last break", b.count(4), 1000);
        b.setLoad(0);
        Check.due("the pointer", b.count(3), -18993);
        Check.due("below the first break", b.count(4), 3);
    }

    private static void promise19SlopeBits() {
        SpringBalance b = new SpringBalance();
        Check.due("1000 / 10000", b.slopeBits(0), 0x3DCCCCCD);
        Check.due("no such part", b.slopeBits(1), MISSING);
        Check.due("no such part", b.slopeBits(Integer.MAX_VALUE), MISSING);
        Check.due("negative", b.slopeBits(-1), INVALID);
        Check.due("negative", b.slopeBits(Integer.MIN_VALUE), INVALID);
        b.setBreak(1, 500);
        Check.due("500 / 1", b.slopeBits(0), 0x43FA0000);
        b.setBreak(501, 501);
        Check.due("1 / 500", b.slopeBits(1), 0x3B03126F);
        b.setBreak(502, 502);
        Check.due("1 / 1", b.slopeBits(2), 0x3F800000);
        b.setBreak(506, 504);
        Check.due("2 / 4", b.slopeBits(3), 0x3F000000);
        Check.due("496 / 9494", b.slopeBits(4), Float.floatToIntBits(496f / 9494f));
        Check.due("no sixth part", b.slopeBits(5), MISSING);
    }

    private static void promise19AllRatios() {
        for (int width = 1; width <= 31000; width += width < 40 ? 1 : 619) {
            SpringBalance b = withOnePart(width);
            for (int height = 1; height <= 1000; height += height < 40 ? 1 : 37) {
                Check.due("height " + height, b.setBreak(width - 1000, height), 2);
                Check.due(height + " / " + width, b.slopeBits(0), Float.floatToIntBits((float) height / (float) width));
            }
        }
    }

    /** A scale of one part that begins at (-1000, 0) and is as wide as this. */
    private static SpringBalance withOnePart(int width) {
        SpringBalance b = new SpringBalance();
        int end = width - 1000;
        b.setBreak(0, 1);
        b.setBreak(-1000, 0);
        b.setBreak(10000, 2);
        b.removeBreak(1);
        if (end < 10000) {
            b.setBreak(end, 1);
            b.removeBreak(2);
        } else if (end > 10000) {
            b.setBreak(end, 3);
            b.removeBreak(1);
        }
        return b;
    }

    private static void promise20Set() {
        SpringBalance b = new SpringBalance();
        int[][] wrong = {{-1, 0}, {3, 0}, {0, -1}, {0, 201}, {1, -1}, {1, 101}, {2, -1}, {2, 51},
            {Integer.MIN_VALUE, 0}, {Integer.MAX_VALUE, 0}, {0, Integer.MAX_VALUE}, {2, Integer.MIN_VALUE}};
        for (int[] w : wrong) {
            Check.due("set out of range", b.set(w[0], w[1]), INVALID);
        }
        Check.due("dead zone", b.set(0, 200), 5);
        Check.due("rate", b.set(1, 100), 10);
        Check.due("step", b.set(2, 50), 2);
        Check.counts("set", b, 0, 0, 0, 0, 0, 0, 0, 0, 0, 3, 0, 2, 2, 200, 100, 50);
        Check.due("dead zone", b.set(0, 0), 200);
        Check.due("rate", b.set(1, 0), 100);
        Check.due("step", b.set(2, 0), 50);
        Check.counts("set", b, 0, 0, 0, 0, 0, 0, 0, 0, 0, 5, 0, 2, 2, 0, 0, 0);
        Check.due("the same", b.set(2, 0), 0);
    }
}
