import java.util.ArrayDeque;
import java.util.ArrayList;
import java.util.Deque;
import java.util.List;
import java.util.Map;
import java.util.TreeMap;
import java.util.regex.Matcher;
import java.util.regex.Pattern;

/**
 * The document told a second time, with the whole Java library and without any care for room: states are
 * copied whole, rows are maps and lists, texts are read by patterns.
 */
final class Model {
    static final int INVALID = -2000000001;
    static final int IMPOSSIBLE = -2000000002;
    static final int LIMIT = -2000000003;
    static final int MISSING = -2000000004;

    private static final Pattern MOVE = Pattern.compile("[+-][0-9]|=[0-9]{1,4}|h[0-9]{1,3}|z");

    static final class Weight {
        final int mass;
        final int error;
        final int variance;
        Weight parent;
        boolean on;

        Weight(int mass, int error, int variance, Weight parent, boolean on) {
            this.mass = mass;
            this.error = error;
            this.variance = variance;
            this.parent = parent;
            this.on = on;
        }
    }

    static final class State {
        int load;
        int extension;
        int creep;
        int pointer;
        int way;
        long account;
        int[] settings = {5, 10, 2};
        List<int[]> turns = new ArrayList<>();
        TreeMap<Integer, Integer> curve = new TreeMap<>(Map.of(0, 0, 1000, 10000));
        TreeMap<Integer, Integer> scale = new TreeMap<>(Map.of(0, 0, 10000, 1000));
        List<Weight> weights = new ArrayList<>();

        State copy() {
            State c = new State();
            c.load = load;
            c.extension = extension;
            c.creep = creep;
            c.pointer = pointer;
            c.way = way;
            c.account = account;
            c.settings = settings.clone();
            c.turns = new ArrayList<>(turns);
            c.curve = new TreeMap<>(curve);
            c.scale = new TreeMap<>(scale);
            c.weights = new ArrayList<>();
            for (Weight w : weights) {
                Weight parent = w.parent == null ? null : c.weights.get(weights.indexOf(w.parent));
                c.weights.add(new Weight(w.mass, w.error, w.variance, parent, w.on));
            }
            return c;
        }

        static int on(TreeMap<Integer, Integer> line, int x) {
            Map.Entry<Integer, Integer> below = line.floorEntry(x);
            Map.Entry<Integer, Integer> above = line.higherEntry(x);
            if (below == null) {
                return above.getValue();
            }
            if (above == null) {
                return below.getValue();
            }
            int rise = above.getValue() - below.getValue();
            int run = above.getKey() - below.getKey();
            return below.getValue() + Math.floorDiv(rise * (x - below.getKey()), run);
        }

        int v(int w) {
            return on(curve, w);
        }

        int f(int d) {
            TreeMap<Integer, Integer> doubled = new TreeMap<>();
            curve.forEach((a, p) -> doubled.put(2 * a, 2 * p));
            return on(doubled, d);
        }

        int reading() {
            return on(scale, pointer);
        }

        int massOn() {
            return weights.stream().filter(w -> w.on).mapToInt(w -> w.mass).sum();
        }

        void come(int reachBefore) {
            int reach = extension + creep;
            int zone = settings[0];
            if (reach != reachBefore) {
                pointer = Math.max(reach - zone, Math.min(reach + zone, pointer));
            }
        }

        void load(int to) {
            if (to == load) {
                return;
            }
            int reachBefore = extension + creep;
            boolean up = to > load;
            if (up ? way == -1 : way == 1) {
                turns.add(new int[] {load, extension});
            }
            way = up ? 1 : -1;
            while (turns.size() >= 2) {
                int beforeLatest = turns.get(turns.size() - 2)[0];
                if (up ? to < beforeLatest : to > beforeLatest) {
                    break;
                }
                turns.remove(turns.size() - 1);
                turns.remove(turns.size() - 1);
            }
            int next;
            if (turns.isEmpty()) {
                next = v(to);
            } else {
                int[] latest = turns.get(turns.size() - 1);
                next = up ? latest[1] + f(to - latest[0]) : latest[1] - f(latest[0] - to);
            }
            account += (long) (load + to) * (next - extension);
            load = to;
            extension = next;
            come(reachBefore);
        }

        void hour() {
            int reachBefore = extension + creep;
            int goal = load * settings[1] / 100;
            if (goal > creep) {
                creep = Math.min(goal, creep + settings[2]);
            } else {
                creep = Math.max(goal, creep - settings[2]);
            }
            come(reachBefore);
        }

        void zero() {
            turns.clear();
            way = 0;
            creep = 0;
            account = 0;
            extension = v(0);
            pointer = extension;
        }

        int reasonPut(int i) {
            if (i < 0 || i >= weights.size()) {
                return 1;
            }
            return weights.get(i).on ? 2 : load + weights.get(i).mass > 1000 ? 3 : 0;
        }

        int reasonTake(int i) {
            if (i < 0 || i >= weights.size()) {
                return 1;
            }
            return weights.get(i).on ? 0 : 2;
        }

        void toggle(int i) {
            Weight w = weights.get(i);
            w.on = !w.on;
            load(w.on ? load + w.mass : load - w.mass);
        }
    }

    State s = new State();
    private final Deque<State> history = new ArrayDeque<>();
    private final StringBuilder text = new StringBuilder();
    private int why = 0;

    private void record(State before) {
        history.addLast(before);
        if (history.size() > 5) {
            history.removeFirst();
        }
    }

    private static int error(int reason) {
        return reason == 0 ? 0 : reason == 1 ? INVALID : IMPOSSIBLE;
    }

    int setLoad(int load) {
        if (load < 0 || load > 1000) {
            return INVALID;
        }
        if (s.massOn() > load) {
            return IMPOSSIBLE;
        }
        record(s.copy());
        s.load(load);
        return s.reading();
    }

    int put(int i) {
        if (s.reasonPut(i) != 0) {
            return error(s.reasonPut(i));
        }
        record(s.copy());
        s.toggle(i);
        return s.reading();
    }

    int take(int i) {
        if (s.reasonTake(i) != 0) {
            return error(s.reasonTake(i));
        }
        record(s.copy());
        s.toggle(i);
        return s.reading();
    }

    int hours(int hours) {
        if (hours < 1 || hours > 200) {
            return INVALID;
        }
        record(s.copy());
        for (int i = 0; i < hours; i++) {
            s.hour();
        }
        return s.creep;
    }

    int zero() {
        if (s.load != 0) {
            return IMPOSSIBLE;
        }
        record(s.copy());
        int forgotten = s.turns.size();
        s.zero();
        return forgotten;
    }

    int undo() {
        if (history.isEmpty()) {
            return IMPOSSIBLE;
        }
        s = history.removeLast();
        return history.size();
    }

    int count(int what) {
        int on = (int) s.weights.stream().filter(w -> w.on).count();
        int[] all = {s.load, s.extension, s.creep, s.pointer, s.reading(), s.turns.size(), s.way, s.weights.size(),
            on, history.size(), text.length(), s.curve.size(), s.scale.size(), s.settings[0], s.settings[1],
            s.settings[2]};
        return what < 0 || what >= all.length ? INVALID : all[what];
    }

    int turning(int index, int what) {
        if (index < 0 || what < 0 || what > 1) {
            return INVALID;
        }
        return index < s.turns.size() ? s.turns.get(index)[what] : MISSING;
    }

    long account() {
        return s.account;
    }

    int again() {
        List<Integer> loads = new ArrayList<>();
        s.turns.forEach(t -> loads.add(t[0]));
        loads.add(s.load);
        int found = s.v(loads.get(0));
        for (int i = 1; i < loads.size(); i++) {
            int part = s.f(Math.abs(loads.get(i) - loads.get(i - 1)));
            found = i % 2 == 1 ? found - part : found + part;
        }
        return found;
    }

    private static boolean rises(TreeMap<Integer, Integer> line) {
        int before = Integer.MIN_VALUE;
        for (int y : line.values()) {
            if (y <= before) {
                return false;
            }
            before = y;
        }
        return true;
    }

    private int setOn(TreeMap<Integer, Integer> line, int x, int y, int most) {
        TreeMap<Integer, Integer> changed = new TreeMap<>(line);
        changed.put(x, y);
        if (!rises(changed)) {
            return IMPOSSIBLE;
        }
        if (changed.size() > most) {
            return LIMIT;
        }
        record(s.copy());
        line.put(x, y);
        return line.size();
    }

    int setPoint(int load, int extension) {
        if (load < 1 || load > 1000 || extension < 1 || extension > 20000) {
            return INVALID;
        }
        if (s.load != 0 || !s.turns.isEmpty()) {
            return IMPOSSIBLE;
        }
        return setOn(s.curve, load, extension, 8);
    }

    int removePoint(int load) {
        if (load < 1 || load > 999) {
            return INVALID;
        }
        if (s.load != 0 || !s.turns.isEmpty()) {
            return IMPOSSIBLE;
        }
        if (!s.curve.containsKey(load)) {
            return MISSING;
        }
        record(s.copy());
        return s.curve.remove(load);
    }

    int curve(int which, int load) {
        if (which < 0 || which > 1 || load < 0 || load > 1000) {
            return INVALID;
        }
        return which == 0 ? s.v(load) : s.f(load);
    }

    int setBreak(int place, int reading) {
        if (place < -1000 || place > 30000 || reading < 0 || reading > 1000) {
            return INVALID;
        }
        return setOn(s.scale, place, reading, 6);
    }

    int removeBreak(int index) {
        if (index < 0 || index >= s.scale.size()) {
            return INVALID;
        }
        if (s.scale.size() == 2) {
            return IMPOSSIBLE;
        }
        record(s.copy());
        s.scale.remove(new ArrayList<>(s.scale.keySet()).get(index));
        return s.scale.size();
    }

    int entry(int what, int index) {
        if (what < 0 || what > 3 || index < 0) {
            return INVALID;
        }
        TreeMap<Integer, Integer> line = what < 2 ? s.curve : s.scale;
        if (index >= line.size()) {
            return MISSING;
        }
        return new ArrayList<>(what % 2 == 0 ? line.keySet() : line.values()).get(index);
    }

    int readingAt(int place) {
        return place < -1000 || place > 30000 ? INVALID : State.on(s.scale, place);
    }

    int slopeBits(int index) {
        if (index < 0) {
            return INVALID;
        }
        if (index + 1L >= s.scale.size()) {
            return MISSING;
        }
        float rise = entry(3, index + 1) - entry(3, index);
        float run = entry(2, index + 1) - entry(2, index);
        return Float.floatToIntBits(rise / run);
    }

    int set(int what, int value) {
        int[] tops = {200, 100, 50};
        if (what < 0 || what > 2 || value < 0 || value > tops[what]) {
            return INVALID;
        }
        record(s.copy());
        int previous = s.settings[what];
        s.settings[what] = value;
        return previous;
    }

    int addWeight(int mass, int error, int variance, int parent) {
        if (mass < 1 || mass > 500 || error < -9 || error > 9 || variance < 0 || variance > 1000) {
            return INVALID;
        }
        if (parent < -1 || parent >= s.weights.size()) {
            return INVALID;
        }
        if (s.weights.size() == 8) {
            return LIMIT;
        }
        record(s.copy());
        s.weights.add(new Weight(mass, error, variance, parent < 0 ? null : s.weights.get(parent), false));
        return s.weights.size() - 1;
    }

    int removeWeight(int i) {
        if (i < 0 || i >= s.weights.size()) {
            return INVALID;
        }
        Weight w = s.weights.get(i);
        if (w.on || s.weights.stream().anyMatch(o -> o.parent == w)) {
            return IMPOSSIBLE;
        }
        record(s.copy());
        s.weights.remove(i);
        return s.weights.size();
    }

    private static List<Weight> chain(Weight w) {
        List<Weight> chain = new ArrayList<>();
        for (Weight at = w; at != null; at = at.parent) {
            chain.add(at);
        }
        return chain;
    }

    int weight(int i, int what) {
        if (i < 0 || i >= s.weights.size() || what < 0 || what > 8) {
            return INVALID;
        }
        Weight w = s.weights.get(i);
        List<Weight> chain = chain(w);
        int[] all = {w.mass, w.error, w.variance, w.parent == null ? -1 : s.weights.indexOf(w.parent), w.on ? 1 : 0,
            chain.stream().mapToInt(c -> c.error).sum(), chain.stream().mapToInt(c -> c.variance).sum(), chain.size(),
            (int) s.weights.stream().filter(o -> chain(o).contains(w)).count()};
        return all[what];
    }

    private List<Weight> chosen(int set) {
        List<Weight> chosen = new ArrayList<>();
        for (int i = 0; i < s.weights.size(); i++) {
            if ((set & 1 << i) != 0) {
                chosen.add(s.weights.get(i));
            }
        }
        return chosen;
    }

    private int errorOfSet(int set) {
        if (set <= 0 || set >= 1 << s.weights.size() || Integer.bitCount(set) > 5) {
            return INVALID;
        }
        List<Weight> chosen = chosen(set);
        boolean busy = chosen.stream().anyMatch(w -> w.on);
        return busy || chosen.stream().mapToInt(w -> w.mass).sum() > 1000 ? IMPOSSIBLE : 0;
    }

    /** The places going up, the places coming down, the told sums, the middles. */
    private int[][] calibrate(List<Weight> chosen) {
        int n = chosen.size();
        State t = new State();
        t.curve = s.curve;
        t.settings = s.settings;
        int[][] rows = new int[4][n + 1];
        for (int k = 1; k <= n; k++) {
            Weight w = chosen.get(k - 1);
            t.load(t.load + w.mass);
            rows[0][k] = t.pointer;
            rows[2][k] = rows[2][k - 1] + w.mass + w.error;
        }
        rows[1][n] = t.pointer;
        for (int k = n - 1; k >= 0; k--) {
            t.load(t.load - chosen.get(k).mass);
            rows[1][k] = t.pointer;
        }
        for (int k = 0; k <= n; k++) {
            rows[3][k] = Math.floorDiv(rows[0][k] + rows[1][k], 2);
        }
        return rows;
    }

    private static boolean isScale(int[][] rows) {
        TreeMap<Integer, Integer> scale = new TreeMap<>();
        for (int k = 0; k < rows[3].length; k++) {
            int place = rows[3][k];
            int reading = rows[2][k];
            if (place < -1000 || place > 30000 || reading < 0 || reading > 1000) {
                return false;
            }
            if (!scale.isEmpty() && scale.lastKey() >= place) {
                return false;
            }
            scale.put(place, reading);
        }
        return rises(scale);
    }

    int calibration(int set, int what) {
        if (what < 0 || what > 14) {
            return INVALID;
        }
        if (errorOfSet(set) != 0) {
            return errorOfSet(set);
        }
        List<Weight> chosen = chosen(set);
        int[][] rows = calibrate(chosen);
        if (what < 12) {
            return what % 6 <= chosen.size() ? rows[what / 6][what % 6] : MISSING;
        }
        if (what == 12) {
            int width = Integer.MIN_VALUE;
            for (int k = 0; k <= chosen.size(); k++) {
                width = Math.max(width, rows[1][k] - rows[0][k]);
            }
            return width;
        }
        if (what == 13) {
            return chosen.stream().flatMap(w -> chain(w).stream()).mapToInt(w -> w.variance).sum();
        }
        return isScale(rows) ? 1 : 0;
    }

    int adopt(int set) {
        if (errorOfSet(set) != 0) {
            return errorOfSet(set);
        }
        int[][] rows = calibrate(chosen(set));
        if (!isScale(rows)) {
            return IMPOSSIBLE;
        }
        record(s.copy());
        s.scale = new TreeMap<>();
        for (int k = 0; k < rows[3].length; k++) {
            s.scale.put(rows[3][k], rows[2][k]);
        }
        return s.scale.size();
    }

    int type(int character) {
        if (character < 32 || character > 126) {
            return INVALID;
        }
        if (text.length() == 80) {
            return LIMIT;
        }
        text.append((char) character);
        return text.length();
    }

    int clearText() {
        int length = text.length();
        text.setLength(0);
        return length;
    }

    int fault() {
        Matcher matcher = MOVE.matcher(text);
        int start = 0;
        while (start < text.length()) {
            if (!matcher.region(start, text.length()).lookingAt() || !isInRange(matcher.group())) {
                return start;
            }
            int end = matcher.end();
            if (end < text.length() && (text.charAt(end) != ';' || end + 1 == text.length())) {
                return start;
            }
            start = end + 1;
        }
        return MISSING;
    }

    private static boolean isInRange(String move) {
        if (move.startsWith("=")) {
            return Integer.parseInt(move.substring(1)) <= 1000;
        }
        if (move.startsWith("h")) {
            int hours = Integer.parseInt(move.substring(1));
            return hours >= 1 && hours <= 200;
        }
        return true;
    }

    int move() {
        if (fault() != MISSING) {
            return IMPOSSIBLE;
        }
        record(s.copy());
        if (text.length() == 0) {
            return 0;
        }
        int done = 0;
        for (String move : text.toString().split(";")) {
            int reason = reasonOf(move);
            if (reason != 0) {
                why = reason;
                return done;
            }
            done++;
        }
        return done;
    }

    /** Carries out the move unless there is a reason against it. */
    private int reasonOf(String move) {
        int number = move.length() > 1 ? Integer.parseInt(move.substring(1)) : 0;
        int reason = 0;
        switch (move.charAt(0)) {
            case '+' -> {
                reason = s.reasonPut(number);
                if (reason == 0) {
                    s.toggle(number);
                }
            }
            case '-' -> {
                reason = s.reasonTake(number);
                if (reason == 0) {
                    s.toggle(number);
                }
            }
            case '=' -> {
                reason = s.massOn() > number ? 4 : 0;
                if (reason == 0) {
                    s.load(number);
                }
            }
            case 'h' -> {
                for (int i = 0; i < number; i++) {
                    s.hour();
                }
            }
            default -> {
                reason = s.load != 0 ? 5 : 0;
                if (reason == 0) {
                    s.zero();
                }
            }
        }
        return reason;
    }

    int why() {
        return why;
    }
}
