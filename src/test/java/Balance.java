/** A balance that tells its latest call, and stops a test that asks more calls of it than are promised. */
final class Balance {
    private static final int PROMISED_CALLS = 512;

    private static String latest = "no call";

    private final SpringBalance asked = new SpringBalance();
    private int calls;

    static String latest() {
        return latest;
    }

    private long told(String call, long answer) {
        latest = call;
        calls++;
        if (calls > PROMISED_CALLS) {
            throw new IllegalStateException("nothing is promised about the call " + calls + ", " + call);
        }
        return answer;
    }

    private int call(int answer, String name, int... arguments) {
        StringBuilder text = new StringBuilder(name).append('(');
        for (int i = 0; i < arguments.length; i++) {
            text.append(i == 0 ? "" : ", ").append(arguments[i]);
        }
        return (int) told(text.append(')').toString(), answer);
    }

    int setLoad(int load) {
        return call(asked.setLoad(load), "setLoad", load);
    }

    int put(int weight) {
        return call(asked.put(weight), "put", weight);
    }

    int take(int weight) {
        return call(asked.take(weight), "take", weight);
    }

    int hours(int hours) {
        return call(asked.hours(hours), "hours", hours);
    }

    int zero() {
        return call(asked.zero(), "zero");
    }

    int undo() {
        return call(asked.undo(), "undo");
    }

    int count(int what) {
        return call(asked.count(what), "count", what);
    }

    int turning(int index, int what) {
        return call(asked.turning(index, what), "turning", index, what);
    }

    long account() {
        return told("account()", asked.account());
    }

    int again() {
        return call(asked.again(), "again");
    }

    int setPoint(int load, int extension) {
        return call(asked.setPoint(load, extension), "setPoint", load, extension);
    }

    int removePoint(int load) {
        return call(asked.removePoint(load), "removePoint", load);
    }

    int curve(int which, int load) {
        return call(asked.curve(which, load), "curve", which, load);
    }

    int setBreak(int place, int reading) {
        return call(asked.setBreak(place, reading), "setBreak", place, reading);
    }

    int removeBreak(int index) {
        return call(asked.removeBreak(index), "removeBreak", index);
    }

    int entry(int what, int index) {
        return call(asked.entry(what, index), "entry", what, index);
    }

    int readingAt(int place) {
        return call(asked.readingAt(place), "readingAt", place);
    }

    int slopeBits(int index) {
        return call(asked.slopeBits(index), "slopeBits", index);
    }

    int set(int what, int value) {
        return call(asked.set(what, value), "set", what, value);
    }

    int addWeight(int mass, int error, int variance, int parent) {
        return call(asked.addWeight(mass, error, variance, parent), "addWeight", mass, error, variance, parent);
    }

    int removeWeight(int weight) {
        return call(asked.removeWeight(weight), "removeWeight", weight);
    }

    int weight(int weight, int what) {
        return call(asked.weight(weight, what), "weight", weight, what);
    }

    int calibration(int set, int what) {
        return call(asked.calibration(set, what), "calibration", set, what);
    }

    int adopt(int set) {
        return call(asked.adopt(set), "adopt", set);
    }

    int type(int character) {
        return call(asked.type(character), "type", character);
    }

    int clearText() {
        return call(asked.clearText(), "clearText");
    }

    int fault() {
        return call(asked.fault(), "fault");
    }

    int move() {
        return call(asked.move(), "move");
    }

    int why() {
        return call(asked.why(), "why");
    }

    /** Puts this text in the place of the one that was there. */
    void write(String text) {
        clearText();
        for (int i = 0; i < text.length(); i++) {
            type(text.charAt(i));
        }
    }

    /** All that a state of the history holds, as far as it can be asked. */
    String bench() {
        StringBuilder all = new StringBuilder();
        for (int what = 0; what <= 15; what++) {
            if (what != 9 && what != 10) {
                all.append(count(what)).append(' ');
            }
        }
        all.append("account ").append(account()).append(" again ").append(again()).append(" turns");
        for (int index = 0; index <= count(5); index++) {
            all.append(' ').append(turning(index, 0)).append(' ').append(turning(index, 1));
        }
        for (int what = 0; what <= 3; what++) {
            all.append(what < 2 ? " curve" : " scale");
            for (int index = 0; index <= count(what < 2 ? 11 : 12); index++) {
                all.append(' ').append(entry(what, index));
            }
        }
        for (int weight = 0; weight < count(7); weight++) {
            all.append(" weight");
            for (int what = 0; what <= 8; what++) {
                all.append(' ').append(weight(weight, what));
            }
        }
        return all.toString();
    }

    /** All that can be asked; the text is told by its moves, so that this must be what is asked last. */
    String everything() {
        StringBuilder all = new StringBuilder(bench());
        all.append(" history ").append(count(9)).append(" why ").append(why());
        all.append(" text ").append(count(10)).append(' ').append(fault()).append(' ').append(move());
        for (int what = 0; what <= 9; what++) {
            all.append(' ').append(count(what));
        }
        return all.append(' ').append(why()).toString();
    }
}
