/** The sentences of the description, from its beginning up to the losses, that name a boundary case. */
public final class SpringEdgesTest extends Edges {
    public static void main(String[] args) {
        the512thCall();
        divisionsAreRoundedDown();
        loadFromLeastToGreatest();
        curveOfAtMostEightPoints();
        curveStrictlyIncreasing();
        curveBeginsAtZero();
        curveEndsAtThousand();
        curveOnAPointAndBesideIt();
        curveAtFirst();
        doubledCurve();
        noTurningPointsAndNoWayAtFirst();
        turningPointOnlyBehindTheOtherWay();
        reachedOnTheWayUp();
        reachedOnTheWayDown();
        asLongAsThereAreTwo();
        extensionWithoutTurningPoints();
        extensionFromTheLatestOne();
        thePresentLoad();
        creepAtFirst();
        creepByWhatIsMissing();
        creepToTheGreatestGoal();
        pointerAtFirst();
        pointerAboveTheDeadZone();
        pointerBelowTheDeadZone();
        pointerAtTheEndsOfTheDeadZone();
        pointerStaysWhenTheDeadZoneIsSet();
        pointerStaysWithTheReach();
        accountAtFirst();
        accountWhenTheLoadChanges();
        accountFallsBelowTheInts();
        accountGrowsAboveTheInts();
        Check.finish();
    }

    /** V is 4 * w up to 500 and then 2000 + 16 * (w - 500); F is 4 * d. The pointer is at the reach. */
    private static void bent(Balance b) {
        b.setPoint(500, 2000);
        b.set(0, 0);
    }

    private static Balance bentAfterLoads(int... loads) {
        Balance b = after(SpringEdgesTest::bent);
        for (int load : loads) {
            b.setLoad(load);
        }
        return b;
    }

    private static void the512thCall() {
        says("What it is", "An object is used for at most 512 calls after it has been made");
        Balance b = new Balance();
        for (int i = 0; i < 255; i++) {
            b.setLoad(1000 - i);
            b.setLoad(i);
        }
        due(b.setLoad(745), 744);
        due(b.setLoad(255), 255);
        b = new Balance();
        for (int i = 0; i < 255; i++) {
            b.setLoad(1000 - i);
            b.setLoad(i);
        }
        b.setLoad(745);
        due(b.count(5), 510);
        b = new Balance();
        for (int i = 0; i < 511; i++) {
            b.hours(200);
        }
        due(b.undo(), 4);
    }

    private static void divisionsAreRoundedDown() {
        says("Description", "divisions are rounded down (toward negative infinity)");
        Balance b = new Balance();
        b.setPoint(3, 5);
        due(b.curve(0, 1), 1);
        due(b.curve(0, 2), 3);
        due(b.curve(1, 5), 8);
        b.setBreak(7, 5);
        due(b.readingAt(1), 0);
        due(b.readingAt(2), 1);
        due(b.readingAt(6), 4);
        b.setLoad(99);
        due(b.hours(200), 9);
        b = new Balance();
        b.set(0, 0);
        b.addWeight(500, 0, 0, -1);
        b.setPoint(1, 2);
        b.setPoint(1000, 2001);
        due(b.calibration(1, 6), 0);
        b.setPoint(1, 3);
        due(b.calibration(1, 6), -1);
        b.adopt(1);
        due(b.entry(2, 0), -1);
    }

    private static void loadFromLeastToGreatest() {
        says("Spring", "The load is from 0 to 1000, initially 0.");
        Balance b = new Balance();
        due(b.count(0), 0);
        b.setLoad(1000);
        due(b.count(0), 1000);
        b.setLoad(0);
        due(b.count(0), 0);
        due(b.setLoad(1001), INVALID);
        due(b.setLoad(-1), INVALID);
        due(b.count(0), 0);
    }

    private static void curveOfAtMostEightPoints() {
        says("Spring", "The curve of the spring has at most 8 points");
        Balance b = new Balance();
        for (int points = 3; points <= 8; points++) {
            due(b.setPoint(points, points), points);
        }
        due(b.setPoint(9, 9), LIMIT);
        due(b.count(11), 8);
        due(b.entry(0, 7), 1000);
        due(b.entry(0, 6), 8);
    }

    private static void curveStrictlyIncreasing() {
        says("Spring", "both strictly increasing from point to point");
        Balance b = new Balance();
        b.setPoint(500, 3000);
        due(b.setPoint(499, 3000), IMPOSSIBLE);
        due(b.setPoint(501, 3000), IMPOSSIBLE);
        due(b.setPoint(499, 2999), 4);
        due(b.setPoint(501, 3001), 5);
        due(b.setPoint(500, 2999), IMPOSSIBLE);
        due(b.setPoint(500, 3001), IMPOSSIBLE);
        due(b.setPoint(500, 3000), 5);
    }

    private static void curveBeginsAtZero() {
        says("Spring", "always beginning with (0, 0)");
        Balance b = new Balance();
        due(b.setPoint(0, 1), INVALID);
        due(b.removePoint(0), INVALID);
        due(b.setPoint(1, 1), 3);
        due(b.entry(0, 0), 0);
        due(b.entry(1, 0), 0);
        due(b.entry(0, 1), 1);
        due(b.curve(0, 0), 0);
    }

    private static void curveEndsAtThousand() {
        says("Spring", "ending with a point at the load 1000, whose extension is at most 20000");
        Balance b = new Balance();
        due(b.removePoint(1000), INVALID);
        due(b.setPoint(1001, 10001), INVALID);
        due(b.setPoint(999, 10000), IMPOSSIBLE);
        due(b.setPoint(999, 9999), 3);
        due(b.setPoint(1000, 9999), IMPOSSIBLE);
        due(b.setPoint(1000, 20001), INVALID);
        due(b.setPoint(1000, 20000), 3);
        due(b.entry(0, 2), 1000);
        due(b.entry(1, 2), 20000);
        due(b.curve(0, 1000), 20000);
    }

    private static void manyPoints(Balance b) {
        b.setPoint(300, 100);
        b.setPoint(700, 9999);
        b.setPoint(1000, 20000);
    }

    private static void curveOnAPointAndBesideIt() {
        says("Spring", "V(w) is the extension on the curve: on a point its extension; between the points ...");
        Balance b = after(SpringEdgesTest::manyPoints);
        int[][] due = {{0, 0}, {1, 0}, {2, 0}, {3, 1}, {299, 99}, {300, 100}, {301, 124}, {699, 9974}, {700, 9999},
            {701, 10032}, {999, 19966}, {1000, 20000}};
        for (int[] d : due) {
            due(b.curve(0, d[0]), d[1]);
        }
    }

    private static void doubledCurve() {
        says("Spring", "F(d), for d from 0 to 1000, is that of a curve whose points are (2 * a, 2 * p)");
        Balance b = after(SpringEdgesTest::manyPoints);
        int[][] due = {{0, 0}, {1, 0}, {2, 0}, {3, 1}, {599, 199}, {600, 200}, {601, 224}, {999, 10074}, {1000, 10099}};
        for (int[] d : due) {
            due(b.curve(1, d[0]), d[1]);
        }
        b = new Balance();
        b.setPoint(1000, 20000);
        b.setPoint(500, 19000);
        due(b.curve(1, 1000), 38000);
        due(b.curve(1, 999), 37962);
    }

    private static void curveAtFirst() {
        says("Spring", "Initially the points are (0, 0) and (1000, 10000).");
        Balance b = new Balance();
        due(b.count(11), 2);
        due(b.entry(0, 0), 0);
        due(b.entry(1, 0), 0);
        due(b.entry(0, 1), 1000);
        due(b.entry(1, 1), 10000);
        due(b.entry(0, 2), MISSING);
    }

    private static void noTurningPointsAndNoWayAtFirst() {
        says("Spring", "initially none, and the way it went last: up or down (initially neither)");
        Balance b = new Balance();
        turns(b);
        due(b.count(6), 0);
        b.setLoad(1);
        turns(b);
        due(b.count(6), 1);
    }

    private static void turningPointOnlyBehindTheOtherWay() {
        says("Spring", "if it went the other way last, the present load ... becomes a turning point, the latest one");
        Balance b = new Balance();
        b.setLoad(500);
        b.setLoad(501);
        turns(b);
        b.setLoad(500);
        turns(b, 501);
        due(b.turning(0, 1), 5010);
        due(b.count(6), -1);
        b.setLoad(400);
        turns(b, 501);
        b.setLoad(401);
        turns(b, 501, 400);
        due(b.turning(1, 1), 4000);
        due(b.count(6), 1);
        b.setLoad(402);
        turns(b, 501, 400);
    }

    private static void reachedOnTheWayUp() {
        says("Spring", "reaches or passes the load of the one before the latest one (is at least it on the way up");
        turns(bentAfterLoads(700, 300, 699), 700, 300);
        due(bentAfterLoads(700, 300, 699).count(1), 5196);
        turns(bentAfterLoads(700, 300, 700));
        due(bentAfterLoads(700, 300, 700).count(1), 5200);
        turns(bentAfterLoads(700, 300, 701));
        due(bentAfterLoads(700, 300, 701).count(1), 5216);
    }

    private static void reachedOnTheWayDown() {
        says("Spring", "reaches or passes the load of the one before the latest one (... at most it on the way down)");
        turns(bentAfterLoads(700, 300, 600, 301), 700, 300, 600);
        due(bentAfterLoads(700, 300, 600, 301).count(1), 3604);
        turns(bentAfterLoads(700, 300, 600, 300), 700);
        due(bentAfterLoads(700, 300, 600, 300).count(1), 3600);
        turns(bentAfterLoads(700, 300, 600, 299), 700);
        due(bentAfterLoads(700, 300, 600, 299).count(1), 3596);
    }

    private static void asLongAsThereAreTwo() {
        says("Spring", "as long as there are at least two turning points ... the latest two are forgotten");
        int[] up = {900, 100, 800, 200, 700, 300, 500};
        int[][] upwards = {{699, 6}, {700, 4}, {799, 4}, {800, 2}, {899, 2}, {900, 0}, {1000, 0}};
        for (int[] u : upwards) {
            Balance b = afterLoads(up);
            b.setLoad(u[0]);
            due(b.count(5), u[1]);
        }
        int[] down = {900, 100, 800, 200, 700, 300, 600, 500};
        int[][] downwards = {{301, 7}, {300, 5}, {201, 5}, {200, 3}, {101, 3}, {100, 1}, {99, 1}, {0, 1}};
        for (int[] d : downwards) {
            Balance b = afterLoads(down);
            b.setLoad(d[0]);
            due(b.count(5), d[1]);
            due(b.turning(0, 0), 900);
        }
        turns(afterLoads(1, 0), 1);
    }

    private static void extensionWithoutTurningPoints() {
        says("Spring", "Then the extension is V(new load) if there are no turning points");
        Balance b = after(SpringEdgesTest::manyPoints);
        b.setLoad(1);
        due(b.count(1), 0);
        b.setLoad(3);
        due(b.count(1), 1);
        b.setLoad(1000);
        due(b.count(1), 20000);
        b.setLoad(0);
        b.setLoad(1000);
        turns(b);
        due(b.count(1), 20000);
    }

    private static void extensionFromTheLatestOne() {
        says("Spring", "with the latest one (t, x), it is x + F(new load - t) on the way up, and x - F(t - new load)");
        Balance b = after(SpringEdgesTest::manyPoints);
        b.setLoad(1000);
        b.setLoad(999);
        due(b.count(1), 20000);
        b.setLoad(997);
        due(b.count(1), 19999);
        b.setLoad(0);
        due(b.count(1), 9901);
        b.setLoad(1);
        due(b.count(1), 9901);
        b.setLoad(3);
        due(b.count(1), 9902);
        b.setLoad(999);
        due(b.count(1), 19975);
        b.setLoad(998);
        due(b.count(1), 19975);
        b.setLoad(996);
        due(b.count(1), 19974);
    }

    private static void thePresentLoad() {
        says("Spring", "If the new load is the present one, nothing happens.");
        Balance b = new Balance();
        b.setLoad(0);
        counts(b, 0, 0, 0, 0, 0, 0, 0);
        b.setLoad(700);
        b.setLoad(500);
        b.set(0, 0);
        long account = b.account();
        b.setLoad(500);
        counts(b, 500, 5000, 0, 5005, 500, 1, -1);
        due(b.account(), account);
        b.setLoad(499);
        turns(b, 700);
        b.setLoad(600);
        b.setLoad(600);
        turns(b, 700, 499);
        due(b.count(6), 1);
    }

    private static void creepAtFirst() {
        says("Creep, pointer", "The creep is initially 0.");
        Balance b = new Balance();
        due(b.count(2), 0);
        due(b.hours(1), 0);
        b.setLoad(1000);
        due(b.count(2), 0);
    }

    /** The creeps behind each hour. */
    private static void creeps(Balance b, int... dues) {
        for (int due : dues) {
            due(b.hours(1), due);
        }
    }

    private static void creepByWhatIsMissing() {
        says("Creep, pointer",
            "the creep goes towards load * rate / 100 by as much as is missing, but at most by the step");
        int[][] up = {{0, 0, 0}, {1, 1, 2}, {4, 4, 5}, {5, 5, 5}, {6, 5, 5}, {50, 5, 5}};
        int[][] down = {{0, 5, 5}, {1, 4, 3}, {4, 1, 0}, {5, 0, 0}, {6, 0, 0}, {50, 0, 0}};
        for (int i = 0; i < up.length; i++) {
            Balance b = new Balance();
            b.set(2, up[i][0]);
            b.setLoad(59);
            creeps(b, up[i][1], up[i][2]);
            b.set(2, 50);
            creeps(b, 5);
            b.set(2, down[i][0]);
            b.setLoad(9);
            creeps(b, down[i][1], down[i][2]);
        }
    }

    private static void creepToTheGreatestGoal() {
        says("Creep, pointer", "load * rate / 100 ... (rate and step are settings)");
        int[][] goals = {{0, 100, 0}, {1, 99, 0}, {1, 100, 1}, {99, 1, 0}, {100, 1, 1}, {999, 100, 999},
            {1000, 99, 990}, {1000, 100, 1000}, {1000, 0, 0}, {333, 33, 109}};
        for (int[] g : goals) {
            Balance b = new Balance();
            b.set(1, g[1]);
            b.set(2, 50);
            b.setLoad(g[0]);
            due(b.hours(200), g[2]);
        }
    }

    private static void pointerAtFirst() {
        says("Creep, pointer", "The pointer is initially at 0");
        Balance b = new Balance();
        due(b.count(3), 0);
        b.hours(200);
        due(b.count(3), 0);
    }

    /** The reach is 1100 and goes one up or down with each hour; the pointer is at 1095. */
    private static Balance withSmallSteps() {
        return after(b -> {
            b.set(1, 100);
            b.set(2, 1);
            b.setLoad(100);
            b.hours(100);
        });
    }

    private static void pointerBelowTheDeadZone() {
        says("Creep, pointer", "if it is less than the pointer minus the dead zone, to the reach plus the dead zone");
        Balance b = withSmallSteps();
        counts(b, 100, 1000, 100, 1095);
        b.set(1, 0);
        b.hours(9);
        counts(b, 100, 1000, 91, 1095);
        b.hours(1);
        counts(b, 100, 1000, 90, 1095);
        b.hours(1);
        counts(b, 100, 1000, 89, 1094);
        b.hours(1);
        counts(b, 100, 1000, 88, 1093);
    }

    private static void pointerAboveTheDeadZone() {
        says("Creep, pointer",
            "if it is greater than the pointer plus the dead zone, the pointer comes to the reach minus");
        Balance b = withSmallSteps();
        b.set(1, 0);
        b.hours(12);
        b.set(1, 100);
        b.hours(9);
        counts(b, 100, 1000, 97, 1093);
        b.hours(1);
        counts(b, 100, 1000, 98, 1093);
        b.hours(1);
        counts(b, 100, 1000, 99, 1094);
        b.hours(1);
        counts(b, 100, 1000, 100, 1095);
        b = new Balance();
        b.set(0, 10);
        b.setLoad(1);
        due(b.count(3), 0);
        b = new Balance();
        b.set(0, 9);
        b.setLoad(1);
        due(b.count(3), 1);
    }

    private static void pointerAtTheEndsOfTheDeadZone() {
        says("Creep, pointer", "the pointer plus the dead zone ... the pointer minus the dead zone [of 0 and of 200]");
        Balance b = new Balance();
        b.set(0, 0);
        b.setLoad(1);
        due(b.count(3), 10);
        b.setLoad(0);
        due(b.count(3), 0);
        b.set(0, 200);
        b.setLoad(20);
        due(b.count(3), 0);
        b.setLoad(21);
        due(b.count(3), 10);
        b.setLoad(1);
        due(b.count(3), 10);
        b.setLoad(0);
        due(b.count(3), 10);
        b.setLoad(1000);
        due(b.count(3), 9800);
        b.setLoad(960);
        due(b.count(3), 9800);
        b.setLoad(959);
        due(b.count(3), 9790);
    }

    private static void pointerStaysWhenTheDeadZoneIsSet() {
        says("Creep, pointer", "It does not come when the dead zone is set");
        Balance b = new Balance();
        b.set(0, 200);
        b.setLoad(500);
        due(b.count(3), 4800);
        b.set(0, 0);
        due(b.count(3), 4800);
        b.set(0, 200);
        b.setLoad(470);
        b.set(0, 0);
        due(b.count(3), 4800);
        b.setLoad(471);
        due(b.count(3), 4710);
    }

    private static void pointerStaysWithTheReach() {
        says("Creep, pointer", "nor by a call behind which the reach is what it was");
        Balance b = new Balance();
        b.setPoint(1000, 500);
        b.set(0, 200);
        b.set(1, 0);
        b.addWeight(1, 0, 0, -1);
        b.setLoad(999);
        due(b.count(3), 299);
        b.set(0, 0);
        b.put(0);
        due(b.count(1), 500);
        due(b.count(3), 500);
        b.set(0, 200);
        b.setLoad(600);
        due(b.count(1), 300);
        b.set(0, 0);
        due(b.count(3), 500);
        b.hours(200);
        due(b.count(3), 500);
        b.setLoad(600);
        due(b.count(3), 500);
        b.setLoad(601);
        due(b.count(1), 300);
        due(b.count(3), 500);
        b.take(0);
        due(b.count(1), 300);
        due(b.count(3), 500);
        b.put(0);
        due(b.count(1), 300);
        due(b.count(3), 500);
        b.write("h9;=601;-0;+0;=600");
        due(b.move(), 5);
        due(b.count(1), 300);
        due(b.count(3), 500);
    }

    private static void accountAtFirst() {
        says("Losses", "it is initially 0");
        Balance b = new Balance();
        due(b.account(), 0);
        b.setLoad(0);
        due(b.account(), 0);
    }

    private static void accountWhenTheLoadChanges() {
        says("Losses", "Whenever the load changes, the account grows by (old load + new load) * (new extension - ...");
        Balance b = new Balance();
        b.setLoad(1);
        due(b.account(), 10);
        b.setLoad(1);
        b.hours(200);
        b.set(1, 100);
        b.hours(200);
        due(b.account(), 10);
        b.setLoad(1000);
        due(b.account(), 10 + 1001L * 9990);
        b.setLoad(0);
        due(b.account(), 10 + 1001L * 9990 - 1000L * 10000);
    }

    private static void accountFallsBelowTheInts() {
        says("Losses", "the account grows by (old load + new load) * (new extension - old extension) [to below ints]");
        Balance b = new Balance();
        b.setPoint(1000, 20000);
        b.setPoint(1, 19000);
        b.setLoad(1000);
        b.write("=0;=1;=1000;=0;=1;=1000;=0;=1;=1000;=0;=1;=1000;=0;=1;=1000;=0;=1;=1000");
        for (int loops = 6; loops <= 1200; loops += 6) {
            b.move();
            if (loops == 108 || loops == 114 || loops == 222 || loops == 228 || loops == 1200) {
                due(b.account(), 20000000L - 18961002L * loops);
            }
        }
    }

    private static void accountGrowsAboveTheInts() {
        says("Losses", "the account grows by (old load + new load) * (new extension - old extension) [to above ints]");
        Balance b = new Balance();
        b.setPoint(1000, 20000);
        b.setPoint(500, 19000);
        b.setPoint(499, 1);
        b.setLoad(1000);
        b.write("=0;=998;=1000;=0;=998;=1000;=0;=998;=1000;=0;=998;=1000;=0;=998;=1000");
        for (int loops = 5; loops <= 1000; loops += 5) {
            b.move();
            if (loops == 55 || loops == 60 || loops == 110 || loops == 115 || loops == 1000) {
                due(b.account(), 20000000L + 37922000L * loops);
            }
        }
    }
}
