import java.util.Random;

/** Runs of calls drawn from fixed seeds: the program must answer as the model does, all through. */
public final class ModelTest {
    private static final int RUNS = 400;
    private static final int CALLS = 512;
    private static final int[] ODD = {Integer.MIN_VALUE, Integer.MAX_VALUE, -1, 0, 1, 1000, 1001, 1 << 30, 1 << 31};

    private final Random random;
    private final SpringBalance balance = new SpringBalance();
    private final Model model = new Model();
    private final String run;
    private final int[] leanings = new int[6];

    private ModelTest(int seed) {
        random = new Random(seed);
        run = "run " + seed + ": ";
        for (int i = 0; i < leanings.length; i++) {
            leanings[i] = 1 + random.nextInt(10);
        }
    }

    public static void main(String[] args) {
        for (int seed = 1; seed <= RUNS && Check.wrong() == 0; seed++) {
            new ModelTest(seed).go();
        }
        Check.finish();
    }

    private void go() {
        for (int i = 0; i < CALLS && Check.wrong() == 0; i++) {
            callSomething(run + "call " + i + " ");
            compareAll(run + "after call " + i + " ");
        }
    }

    private int upTo(int most) {
        return random.nextInt(most + 1);
    }

    private int near(int least, int most) {
        int dice = upTo(40);
        if (dice == 0) {
            return ODD[upTo(ODD.length - 1)];
        }
        if (dice < 4) {
            return least - 1 + upTo(2);
        }
        if (dice < 7) {
            return most - 1 + upTo(2);
        }
        return least + upTo(most - least);
    }

    private int leaning() {
        int sum = 0;
        for (int l : leanings) {
            sum += l;
        }
        int dice = upTo(sum - 1);
        for (int i = 0; i < leanings.length; i++) {
            dice -= leanings[i];
            if (dice < 0) {
                return i;
            }
        }
        return 0;
    }

    private void callSomething(String at) {
        switch (leaning()) {
            case 0 -> callLoads(at);
            case 1 -> callPan(at);
            case 2 -> callSpringAndScale(at);
            case 3 -> callWeights(at);
            case 4 -> callTexts(at);
            default -> callRest(at);
        }
    }

    private void callLoads(String at) {
        int load = near(0, 1000);
        if (upTo(2) > 0) {
            load = balance.count(0) + near(-60, 60);
        }
        if (upTo(9) == 0) {
            load = balance.turning(upTo(5), 0);
        }
        if (upTo(9) == 0) {
            load = 0;
        }
        Check.due(at + "setLoad(" + load + ")", balance.setLoad(load), model.setLoad(load));
    }

    private void callPan(String at) {
        int weight = near(0, 8);
        if (upTo(1) == 0) {
            Check.due(at + "put(" + weight + ")", balance.put(weight), model.put(weight));
        } else {
            Check.due(at + "take(" + weight + ")", balance.take(weight), model.take(weight));
        }
    }

    private void callSpringAndScale(String at) {
        switch (upTo(3)) {
            case 0 -> {
                int load = upTo(4) == 0 ? 1000 : near(1, 1000);
                int extension = upTo(1) == 0 ? near(1, 20000) : near(load * 10 - 3000, load * 10 + 3000);
                Check.due(at + "setPoint(" + load + ", " + extension + ")", balance.setPoint(load, extension),
                    model.setPoint(load, extension));
            }
            case 1 -> {
                int load = upTo(1) == 0 ? near(1, 999) : balance.entry(0, upTo(8));
                Check.due(at + "removePoint(" + load + ")", balance.removePoint(load), model.removePoint(load));
            }
            case 2 -> {
                int place = upTo(3) == 0 ? balance.entry(2, upTo(6)) : near(-1000, upTo(1) == 0 ? 30000 : 12000);
                int reading = upTo(2) == 0 ? near(0, 1000) : place / 10 + near(-100, 100);
                Check.due(at + "setBreak(" + place + ", " + reading + ")", balance.setBreak(place, reading),
                    model.setBreak(place, reading));
            }
            default -> {
                int index = near(0, 6);
                Check.due(at + "removeBreak(" + index + ")", balance.removeBreak(index), model.removeBreak(index));
            }
        }
    }

    private void callWeights(String at) {
        int set = upTo(3) == 0 ? near(1, 255) : upTo((1 << balance.count(7)) - 1);
        switch (upTo(4)) {
            case 0, 1 -> {
                int mass = near(1, upTo(2) == 0 ? 500 : 120);
                int error = near(-9, 9);
                int variance = near(0, 1000);
                int parent = near(-1, 7);
                Check.due(at + "addWeight(" + mass + ", " + error + ", " + variance + ", " + parent + ")",
                    balance.addWeight(mass, error, variance, parent), model.addWeight(mass, error, variance, parent));
            }
            case 2 -> {
                int weight = near(0, 8);
                Check.due(at + "removeWeight(" + weight + ")", balance.removeWeight(weight),
                    model.removeWeight(weight));
            }
            case 3 -> Check.due(at + "adopt(" + set + ")", balance.adopt(set), model.adopt(set));
            default -> {
                for (int what = -1; what <= 15; what++) {
                    Check.due(at + "calibration(" + set + ", " + what + ")", balance.calibration(set, what),
                        model.calibration(set, what));
                }
            }
        }
    }

    private String drawnMove() {
        switch (upTo(9)) {
            case 0, 1, 2:
                return "+" + upTo(7);
            case 3, 4, 5:
                return "-" + upTo(7);
            case 6, 7:
                return "=" + (upTo(3) == 0 ? "0" : "") + upTo(upTo(9) == 0 ? 1003 : 999);
            case 8:
                return "h" + (upTo(3) == 0 ? "0" : "") + upTo(upTo(9) == 0 ? 203 : 99);
            default:
                return upTo(2) == 0 ? "=0;z" : "z";
        }
    }

    private String drawnText() {
        StringBuilder drawn = new StringBuilder(drawnMove());
        for (int left = upTo(8); left > 0; left--) {
            drawn.append(";").append(drawnMove());
        }
        if (upTo(4) == 0) {
            String signs = "+-=hz;0123456789 x/:";
            drawn.insert(upTo(drawn.length()), signs.charAt(upTo(signs.length() - 1)));
        }
        return drawn.toString();
    }

    private void callTexts(String at) {
        if (upTo(3) == 0) {
            int character = near(32, 126);
            Check.due(at + "type(" + character + ")", balance.type(character), model.type(character));
        } else {
            if (upTo(6) > 0) {
                Check.due(at + "clearText()", balance.clearText(), model.clearText());
            }
            for (char c : drawnText().toCharArray()) {
                Check.due(at + "type(" + c + ")", balance.type(c), model.type(c));
            }
        }
        for (int left = upTo(2); left > 0; left--) {
            Check.due(at + "move()", balance.move(), model.move());
        }
    }

    private void callRest(String at) {
        switch (upTo(4)) {
            case 0 -> {
                int hours = near(1, upTo(2) == 0 ? 200 : 10);
                Check.due(at + "hours(" + hours + ")", balance.hours(hours), model.hours(hours));
            }
            case 1 -> Check.due(at + "zero()", balance.zero(), model.zero());
            case 2 -> Check.due(at + "undo()", balance.undo(), model.undo());
            case 3 -> {
                int what = near(0, 2);
                int value = near(0, what == 0 ? 200 : what == 1 ? 100 : 50);
                Check.due(at + "set(" + what + ", " + value + ")", balance.set(what, value), model.set(what, value));
            }
            default -> {
                int which = near(0, 1);
                int load = near(0, 1000);
                int place = near(-1000, 30000);
                Check.due(at + "curve(" + which + ", " + load + ")", balance.curve(which, load),
                    model.curve(which, load));
                Check.due(at + "readingAt(" + place + ")", balance.readingAt(place), model.readingAt(place));
            }
        }
    }

    private void compareAll(String at) {
        for (int what = -1; what <= 16; what++) {
            Check.due(at + "count(" + what + ")", balance.count(what), model.count(what));
        }
        Check.due(at + "account()", balance.account(), model.account());
        Check.due(at + "again()", balance.again(), model.again());
        Check.due(at + "again() and the extension", balance.again(), balance.count(1));
        Check.due(at + "fault()", balance.fault(), model.fault());
        Check.due(at + "why()", balance.why(), model.why());
        int odd = ODD[upTo(ODD.length - 1)];
        compareAt(at, odd);
        for (int index = -1; index <= Math.max(8, balance.count(5)); index++) {
            compareAt(at, index);
        }
    }

    private void compareAt(String at, int index) {
        for (int what = -1; what <= 2; what++) {
            Check.due(at + "turning(" + index + ", " + what + ")", balance.turning(index, what),
                model.turning(index, what));
        }
        if (index > 8 && index < 1000) {
            return;
        }
        Check.due(at + "slopeBits(" + index + ")", balance.slopeBits(index), model.slopeBits(index));
        for (int what = -1; what <= 9; what++) {
            Check.due(at + "entry(" + what + ", " + index + ")", balance.entry(what, index), model.entry(what, index));
            Check.due(at + "weight(" + index + ", " + what + ")", balance.weight(index, what),
                model.weight(index, what));
        }
    }
}
