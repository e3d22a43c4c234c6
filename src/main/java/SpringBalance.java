/**
 * A spring balance on a bench, as the document tells it promise by promise.
 *
 * Everything that a change can alter stands in a Bench; the history holds whole benches. All rows are
 * made with the object and used again, so that no call makes an object.
 */
public final class SpringBalance {

    public static final int INVALID_ARGUMENT = -2000000001;
    public static final int NOT_POSSIBLE = -2000000002;
    public static final int LIMIT_REACHED = -2000000003;
    public static final int NOT_FOUND = -2000000004;

    private static final int TOP_LOAD = 1000;
    private static final int TOP_EXTENSION = 20000;
    private static final int FIRST_EXTENSION = 10000;
    private static final int LOWEST_PLACE = -1000;
    private static final int HIGHEST_PLACE = 30000;
    private static final int TOP_READING = 1000;
    private static final int TOP_HOURS = 200;

    // Turning loads lie one inside the other, so all of them and the present load are different
    // numbers from 0 to 1000. The present load becomes one of them before any is forgotten, so that
    // for a moment they can be every load there is.
    private static final int TURN_ROOM = TOP_LOAD + 1;
    private static final int CURVE_ROOM = 8;
    private static final int SCALE_ROOM = 6;
    private static final int FEWEST_BREAKS = 2;
    private static final int WEIGHT_ROOM = 8;
    private static final int SET_ROOM = 5;
    private static final int HISTORY_ROOM = 5;
    private static final int TEXT_ROOM = 80;

    private static final int STANDARD = -1;

    // How many times greater than the points of the curve those of V and of F are.
    private static final int FROM_ZERO = 1;
    private static final int FROM_TURN = 2;
    private static final int PLAIN = 1;

    private static final int FINE = 0;

    // What why tells.
    private static final int NO_SUCH_WEIGHT = 1;
    private static final int ON_OR_OFF_ALREADY = 2;
    private static final int LOAD_TOO_GREAT = 3;
    private static final int PAN_TOO_HEAVY = 4;
    private static final int NOT_AT_ZERO = 5;

    private final Bench now;
    private final History history;
    private final Text text;
    private final Trial trial;
    private int refusal;

    public SpringBalance() {
        now = new Bench();
        history = new History();
        text = new Text();
        trial = new Trial();
    }

    // ---- loads

    public int setLoad(int load) {
        if (isOutside(load, 0, TOP_LOAD)) {
            return INVALID_ARGUMENT;
        }
        int error = errorOf(now.refusalOfLoad(load));
        if (error != FINE) {
            return error;
        }
        history.record(now);
        now.spring.changeLoad(load);
        return now.reading();
    }

    public int put(int weight) {
        int error = errorOf(now.refusalOfPut(weight));
        if (error != FINE) {
            return error;
        }
        history.record(now);
        now.putOn(weight);
        return now.reading();
    }

    public int take(int weight) {
        int error = errorOf(now.refusalOfTake(weight));
        if (error != FINE) {
            return error;
        }
        history.record(now);
        now.takeOff(weight);
        return now.reading();
    }

    public int hours(int hours) {
        if (isOutside(hours, 1, TOP_HOURS)) {
            return INVALID_ARGUMENT;
        }
        history.record(now);
        now.spring.passHours(hours);
        return now.spring.creep;
    }

    public int zero() {
        int error = errorOf(now.refusalOfZero());
        if (error != FINE) {
            return error;
        }
        history.record(now);
        int forgotten = now.spring.turns.size;
        now.spring.rest();
        return forgotten;
    }

    public int undo() {
        if (history.size == 0) {
            return NOT_POSSIBLE;
        }
        history.restore(now);
        return history.size;
    }

    public int count(int what) {
        Spring spring = now.spring;
        switch (what) {
            case 0: return spring.load;
            case 1: return spring.extension;
            case 2: return spring.creep;
            case 3: return spring.pointer;
            case 4: return now.reading();
            case 5: return spring.turns.size;
            case 6: return spring.way;
            case 7: return now.weights.size;
            case 8: return now.weights.numberOnPan();
            case 9: return history.size;
            case 10: return text.length;
            case 11: return spring.curve.size;
            case 12: return now.scale.size;
            case 13: return spring.deadZone;
            case 14: return spring.rate;
            case 15: return spring.step;
            default: return INVALID_ARGUMENT;
        }
    }

    public int turning(int index, int what) {
        if (index < 0 || isOutside(what, 0, 1)) {
            return INVALID_ARGUMENT;
        }
        return now.spring.turns.found(index, what);
    }

    public long account() {
        return now.spring.account;
    }

    public int again() {
        return now.spring.extensionFromTurns();
    }

    // ---- spring and scale

    public int setPoint(int load, int extension) {
        if (isOutside(load, 1, TOP_LOAD) || isOutside(extension, 1, TOP_EXTENSION)) {
            return INVALID_ARGUMENT;
        }
        Pairs curve = now.spring.curve;
        if (!now.spring.isUnturnedAtZero() || !curve.staysRising(load, extension)) {
            return NOT_POSSIBLE;
        }
        if (!curve.hasRoomFor(load)) {
            return LIMIT_REACHED;
        }
        history.record(now);
        curve.lay(load, extension);
        return curve.size;
    }

    public int removePoint(int load) {
        if (isOutside(load, 1, TOP_LOAD - 1)) {
            return INVALID_ARGUMENT;
        }
        if (!now.spring.isUnturnedAtZero()) {
            return NOT_POSSIBLE;
        }
        Pairs curve = now.spring.curve;
        if (!curve.holds(load)) {
            return NOT_FOUND;
        }
        history.record(now);
        int index = curve.slotOf(load);
        int extension = curve.second(index);
        curve.removeAt(index);
        return extension;
    }

    public int curve(int which, int load) {
        if (isOutside(which, 0, 1) || isOutside(load, 0, TOP_LOAD)) {
            return INVALID_ARGUMENT;
        }
        return now.spring.curve.valueAt(load, which == 0 ? FROM_ZERO : FROM_TURN);
    }

    public int setBreak(int place, int reading) {
        if (isOutside(place, LOWEST_PLACE, HIGHEST_PLACE) || isOutside(reading, 0, TOP_READING)) {
            return INVALID_ARGUMENT;
        }
        if (!now.scale.staysRising(place, reading)) {
            return NOT_POSSIBLE;
        }
        if (!now.scale.hasRoomFor(place)) {
            return LIMIT_REACHED;
        }
        history.record(now);
        now.scale.lay(place, reading);
        return now.scale.size;
    }

    public int removeBreak(int index) {
        if (isOutside(index, 0, now.scale.size - 1)) {
            return INVALID_ARGUMENT;
        }
        if (now.scale.size <= FEWEST_BREAKS) {
            return NOT_POSSIBLE;
        }
        history.record(now);
        now.scale.removeAt(index);
        return now.scale.size;
    }

    public int entry(int what, int index) {
        if (isOutside(what, 0, 3) || index < 0) {
            return INVALID_ARGUMENT;
        }
        return what < 2 ? now.spring.curve.found(index, what) : now.scale.found(index, what - 2);
    }

    public int readingAt(int place) {
        if (isOutside(place, LOWEST_PLACE, HIGHEST_PLACE)) {
            return INVALID_ARGUMENT;
        }
        return now.scale.valueAt(place, PLAIN);
    }

    public int slopeBits(int index) {
        if (index < 0) {
            return INVALID_ARGUMENT;
        }
        if (index >= now.scale.size - 1) {
            return NOT_FOUND;
        }
        return bitsOf(now.scale.slopeAfter(index));
    }

    public int set(int what, int value) {
        if (isOutside(what, 0, 2) || isOutside(value, 0, topOfSetting(what))) {
            return INVALID_ARGUMENT;
        }
        history.record(now);
        return now.spring.exchangeSetting(what, value);
    }

    // ---- weights and calibration

    public int addWeight(int mass, int error, int variance, int parent) {
        if (isOutside(mass, 1, 500) || isOutside(error, -9, 9) || isOutside(variance, 0, 1000)) {
            return INVALID_ARGUMENT;
        }
        if (parent != STANDARD && !now.weights.has(parent)) {
            return INVALID_ARGUMENT;
        }
        if (now.weights.size >= WEIGHT_ROOM) {
            return LIMIT_REACHED;
        }
        history.record(now);
        now.weights.append(mass, error, variance, parent);
        return now.weights.size - 1;
    }

    public int removeWeight(int weight) {
        Weights weights = now.weights;
        if (!weights.has(weight)) {
            return INVALID_ARGUMENT;
        }
        if (weights.isOnPan(weight) || weights.isParent(weight)) {
            return NOT_POSSIBLE;
        }
        history.record(now);
        weights.removeAt(weight);
        return weights.size;
    }

    public int weight(int weight, int what) {
        if (!now.weights.has(weight) || isOutside(what, 0, 8)) {
            return INVALID_ARGUMENT;
        }
        return now.weights.property(weight, what);
    }

    public int calibration(int set, int what) {
        if (isOutside(what, 0, 14)) {
            return INVALID_ARGUMENT;
        }
        int error = now.weights.errorOfSet(set);
        if (error != FINE) {
            return error;
        }
        trial.run(now, set);
        return trial.property(what);
    }

    public int adopt(int set) {
        int error = now.weights.errorOfSet(set);
        if (error != FINE) {
            return error;
        }
        trial.run(now, set);
        if (!trial.isScale()) {
            return NOT_POSSIBLE;
        }
        history.record(now);
        now.scale.copyFrom(trial.breaks);
        return now.scale.size;
    }

    // ---- texts

    public int type(int character) {
        if (isOutside(character, 32, 126)) {
            return INVALID_ARGUMENT;
        }
        if (text.length >= TEXT_ROOM) {
            return LIMIT_REACHED;
        }
        text.append((char) character);
        return text.length;
    }

    public int clearText() {
        int length = text.length;
        text.length = 0;
        return length;
    }

    public int fault() {
        int position = text.positionOfFault();
        return position < text.length ? position : NOT_FOUND;
    }

    public int move() {
        if (text.positionOfFault() < text.length) {
            return NOT_POSSIBLE;
        }
        history.record(now);
        int done = 0;
        int start = 0;
        while (done < TEXT_ROOM && text.readMove(start)) {
            int reason = now.refusalOf(text.kind, text.number);
            if (reason != FINE) {
                refusal = reason;
                return done;
            }
            now.carryOut(text.kind, text.number);
            done++;
            start = text.next;
        }
        return done;
    }

    public int why() {
        return refusal;
    }

    // ---- what the methods above share

    private static boolean isOutside(int value, int least, int greatest) {
        return value < least || value > greatest;
    }

    private static int errorOf(int reason) {
        if (reason == FINE) {
            return FINE;
        }
        return reason == NO_SUCH_WEIGHT ? INVALID_ARGUMENT : NOT_POSSIBLE;
    }

    private static int topOfSetting(int what) {
        switch (what) {
            case 0: return 200;
            case 1: return 100;
            default: return 50;
        }
    }

    /**
     * The bits of a float that is positive and not tiny. Halving and doubling such a float is exact,
     * so exponent and fraction can be counted out without the library.
     */
    private static int bitsOf(float value) {
        if (value <= 0f) {
            return 0;
        }
        float rest = value;
        int exponent = 127;
        for (int i = 0; i < 127 && rest >= 2f; i++) {
            rest = rest * 0.5f;
            exponent++;
        }
        for (int i = 0; i < 126 && rest < 1f; i++) {
            rest = rest * 2f;
            exponent--;
        }
        return (exponent << 23) + (int) ((rest - 1f) * 8388608f);
    }

    /** Pairs of numbers in order: the points of the curve, the breaks of the scale, the turning points. */
    private static final class Pairs {
        private final int[] firsts;
        private final int[] seconds;
        private int size;

        private Pairs(int room) {
            int length = Math.max(room, 0);
            firsts = new int[length];
            seconds = new int[length];
        }

        private void copyFrom(Pairs other) {
            size = Math.min(other.size, firsts.length);
            System.arraycopy(other.firsts, 0, firsts, 0, size);
            System.arraycopy(other.seconds, 0, seconds, 0, size);
        }

        private boolean has(int index) {
            return index >= 0 && index < size;
        }

        private int first(int index) {
            return index >= 0 && index < size ? firsts[index] : 0;
        }

        private int second(int index) {
            return index >= 0 && index < size ? seconds[index] : 0;
        }

        private int found(int index, int what) {
            if (!has(index)) {
                return NOT_FOUND;
            }
            return what == 0 ? firsts[index] : seconds[index];
        }

        private void append(int first, int second) {
            if (size < firsts.length) {
                firsts[size] = first;
                seconds[size] = second;
                size++;
            }
        }

        private void shrinkTo(int length) {
            size = Math.max(0, Math.min(size, length));
        }

        private void removeAt(int index) {
            if (has(index)) {
                int behind = size - index - 1;
                System.arraycopy(firsts, index + 1, firsts, index, behind);
                System.arraycopy(seconds, index + 1, seconds, index, behind);
                size--;
            }
        }

        /** Where the pair with this first number is, or would come in. */
        private int slotOf(int first) {
            for (int i = 0; i < size; i++) {
                if (firsts[i] >= first) {
                    return i;
                }
            }
            return size;
        }

        private boolean holds(int first) {
            int slot = slotOf(first);
            return has(slot) && firsts[slot] == first;
        }

        private boolean hasRoomFor(int first) {
            return size < firsts.length || holds(first);
        }

        private boolean staysRising(int first, int second) {
            int slot = slotOf(first);
            int after = holds(first) ? slot + 1 : slot;
            return (!has(slot - 1) || second(slot - 1) < second) && (!has(after) || second < second(after));
        }

        private void lay(int first, int second) {
            int slot = slotOf(first);
            if (holds(first)) {
                seconds[slot] = second;
            } else if (size < firsts.length) {
                System.arraycopy(firsts, slot, firsts, slot + 1, size - slot);
                System.arraycopy(seconds, slot, seconds, slot + 1, size - slot);
                firsts[slot] = first;
                seconds[slot] = second;
                size++;
            }
        }

        /** The value at x of the line through all pairs, both numbers of each times the factor. */
        private int valueAt(int x, int factor) {
            if (x <= first(0) * factor) {
                return second(0) * factor;
            }
            for (int i = 1; i < size; i++) {
                if (x <= firsts[i] * factor) {
                    return between(i, x, factor);
                }
            }
            return second(size - 1) * factor;
        }

        /** Pairs rise and x lies between two of them: nothing is negative here, and / rounds down. */
        private int between(int index, int x, int factor) {
            if (index < 1 || index >= size) {
                return 0;
            }
            int start = firsts[index - 1] * factor;
            int bottom = seconds[index - 1] * factor;
            int width = firsts[index] * factor - start;
            int height = seconds[index] * factor - bottom;
            return width > 0 ? bottom + height * (x - start) / width : bottom;
        }

        private float slopeAfter(int index) {
            int width = first(index + 1) - first(index);
            int height = second(index + 1) - second(index);
            return width > 0 ? (float) height / (float) width : 0f;
        }
    }

    /** The spring with its creep and the pointer that it drags. */
    private static final class Spring {
        private int load;
        private int extension;
        private int creep;
        private int pointer;
        private int way;
        private long account;
        private int deadZone = 5;
        private int rate = 10;
        private int step = 2;
        private final Pairs turns;
        private final Pairs curve;

        private Spring(int turnRoom) {
            turns = new Pairs(turnRoom);
            curve = new Pairs(CURVE_ROOM);
            curve.append(0, 0);
            curve.append(TOP_LOAD, FIRST_EXTENSION);
        }

        private void copyFrom(Spring other) {
            load = other.load;
            extension = other.extension;
            creep = other.creep;
            pointer = other.pointer;
            way = other.way;
            account = other.account;
            deadZone = other.deadZone;
            rate = other.rate;
            step = other.step;
            turns.copyFrom(other.turns);
            curve.copyFrom(other.curve);
        }

        private void becomeUnloaded(Spring other) {
            load = 0;
            deadZone = other.deadZone;
            curve.copyFrom(other.curve);
            rest();
        }

        /** To be called at the load 0 alone: without turning points the extension there is 0. */
        private void rest() {
            turns.shrinkTo(0);
            way = 0;
            extension = 0;
            creep = 0;
            account = 0;
            pointer = reach();
        }

        private boolean isUnturnedAtZero() {
            return load == 0 && turns.size == 0;
        }

        private int reach() {
            return extension + creep;
        }

        private void changeLoad(int target) {
            if (target == load) {
                return;
            }
            int reachBefore = reach();
            turnTo(target > load ? 1 : -1);
            forgetPassedTurns(target);
            int stretched = extensionBehindTurns(target);
            account += (long) (load + target) * (stretched - extension);
            load = target;
            extension = stretched;
            dragPointer(reachBefore);
        }

        private void turnTo(int direction) {
            if (way == -direction) {
                turns.append(load, extension);
            }
            way = direction;
        }

        private void forgetPassedTurns(int target) {
            for (int left = turns.size; left >= 2 && isReached(turns.first(left - 2), target); left -= 2) {
                turns.shrinkTo(left - 2);
            }
        }

        private boolean isReached(int turn, int target) {
            return way > 0 ? target >= turn : target <= turn;
        }

        private int extensionBehindTurns(int target) {
            int latest = turns.size - 1;
            if (latest < 0) {
                return curve.valueAt(target, FROM_ZERO);
            }
            int from = turns.first(latest);
            int base = turns.second(latest);
            return base + way * curve.valueAt(Math.abs(target - from), FROM_TURN);
        }

        /** Uses no extension that was kept, so that it proves the ones that were. */
        private int extensionFromTurns() {
            if (turns.size == 0) {
                return curve.valueAt(load, FROM_ZERO);
            }
            int found = curve.valueAt(turns.first(0), FROM_ZERO);
            int sign = -1;
            for (int i = 1; i <= turns.size; i++) {
                int end = i < turns.size ? turns.first(i) : load;
                found += sign * curve.valueAt(Math.abs(end - turns.first(i - 1)), FROM_TURN);
                sign = -sign;
            }
            return found;
        }

        /** The pointer comes hour by hour: a dead zone set smaller may have left it far from the reach. */
        private void passHours(int hours) {
            for (int i = 0; i < hours; i++) {
                int reachBefore = reach();
                int missing = load * rate / 100 - creep;
                creep += Math.max(-step, Math.min(step, missing));
                dragPointer(reachBefore);
            }
        }

        private void dragPointer(int reachBefore) {
            int reach = reach();
            if (reach == reachBefore) {
                return;
            }
            if (reach > pointer + deadZone) {
                pointer = reach - deadZone;
            } else if (reach < pointer - deadZone) {
                pointer = reach + deadZone;
            }
        }

        private int exchangeSetting(int what, int value) {
            int previous;
            switch (what) {
                case 0:
                    previous = deadZone;
                    deadZone = value;
                    return previous;
                case 1:
                    previous = rate;
                    rate = value;
                    return previous;
                default:
                    previous = step;
                    step = value;
                    return previous;
            }
        }
    }

    /** The weights by number. A parent's number is always less than its child's. */
    private static final class Weights {
        private final int[] masses = new int[WEIGHT_ROOM];
        private final int[] errors = new int[WEIGHT_ROOM];
        private final int[] variances = new int[WEIGHT_ROOM];
        private final int[] parents = new int[WEIGHT_ROOM];
        private final int[] onPan = new int[WEIGHT_ROOM];
        private int size;

        private void copyFrom(Weights other) {
            size = other.size;
            System.arraycopy(other.masses, 0, masses, 0, WEIGHT_ROOM);
            System.arraycopy(other.errors, 0, errors, 0, WEIGHT_ROOM);
            System.arraycopy(other.variances, 0, variances, 0, WEIGHT_ROOM);
            System.arraycopy(other.parents, 0, parents, 0, WEIGHT_ROOM);
            System.arraycopy(other.onPan, 0, onPan, 0, WEIGHT_ROOM);
        }

        private boolean has(int weight) {
            return weight >= 0 && weight < size;
        }

        private void append(int mass, int error, int variance, int parent) {
            if (size < WEIGHT_ROOM) {
                masses[size] = mass;
                errors[size] = error;
                variances[size] = variance;
                parents[size] = parent;
                onPan[size] = 0;
                size++;
            }
        }

        private void removeAt(int weight) {
            if (!has(weight)) {
                return;
            }
            closeGap(masses, weight);
            closeGap(errors, weight);
            closeGap(variances, weight);
            closeGap(parents, weight);
            closeGap(onPan, weight);
            size--;
            for (int i = 0; i < size; i++) {
                if (parents[i] > weight) {
                    parents[i]--;
                }
            }
        }

        private void closeGap(int[] row, int gap) {
            for (int i = gap; i + 1 < size && i + 1 < row.length; i++) {
                row[i] = row[i + 1];
            }
        }

        private int mass(int weight) {
            return has(weight) ? masses[weight] : 0;
        }

        private int told(int weight) {
            return has(weight) ? masses[weight] + errors[weight] : 0;
        }

        private boolean isOnPan(int weight) {
            return has(weight) && onPan[weight] != 0;
        }

        private void lay(int weight, int pan) {
            if (has(weight)) {
                onPan[weight] = pan;
            }
        }

        private int numberOnPan() {
            int number = 0;
            for (int i = 0; i < size; i++) {
                number += onPan[i];
            }
            return number;
        }

        private int massOnPan() {
            int sum = 0;
            for (int i = 0; i < size; i++) {
                sum += onPan[i] * masses[i];
            }
            return sum;
        }

        private boolean isParent(int weight) {
            for (int i = 0; i < size; i++) {
                if (parents[i] == weight) {
                    return true;
                }
            }
            return false;
        }

        private int sumToStandard(int[] row, int weight) {
            int sum = 0;
            int at = weight;
            for (int i = 0; i < WEIGHT_ROOM && has(at) && at < row.length; i++) {
                sum += row[at];
                at = parents[at];
            }
            return sum;
        }

        private int totalVariance(int weight) {
            return sumToStandard(variances, weight);
        }

        private int depth(int weight) {
            int depth = 0;
            int at = weight;
            for (int i = 0; i < WEIGHT_ROOM && has(at); i++) {
                depth++;
                at = parents[at];
            }
            return depth;
        }

        private boolean isTracedTo(int weight, int ancestor) {
            int at = weight;
            for (int i = 0; i < WEIGHT_ROOM && has(at); i++) {
                if (at == ancestor) {
                    return true;
                }
                at = parents[at];
            }
            return false;
        }

        private int numberTracedTo(int ancestor) {
            int number = 0;
            for (int i = 0; i < size; i++) {
                if (isTracedTo(i, ancestor)) {
                    number++;
                }
            }
            return number;
        }

        private int property(int weight, int what) {
            if (!has(weight)) {
                return INVALID_ARGUMENT;
            }
            switch (what) {
                case 0: return masses[weight];
                case 1: return errors[weight];
                case 2: return variances[weight];
                case 3: return parents[weight];
                case 4: return onPan[weight];
                case 5: return sumToStandard(errors, weight);
                case 6: return totalVariance(weight);
                case 7: return depth(weight);
                default: return numberTracedTo(weight);
            }
        }

        private static boolean isInSet(int set, int weight) {
            return ((set >> weight) & 1) != 0;
        }

        private int errorOfSet(int set) {
            if (set <= 0 || set >= (1 << size) || Integer.bitCount(set) > SET_ROOM) {
                return INVALID_ARGUMENT;
            }
            int sum = 0;
            for (int i = 0; i < size; i++) {
                if (isInSet(set, i)) {
                    if (onPan[i] != 0) {
                        return NOT_POSSIBLE;
                    }
                    sum += masses[i];
                }
            }
            return sum > TOP_LOAD ? NOT_POSSIBLE : FINE;
        }
    }

    /** All that a change can alter, and so all that the history records. */
    private static final class Bench {
        private final Spring spring;
        private final Pairs scale;
        private final Weights weights;

        private Bench() {
            spring = new Spring(TURN_ROOM);
            scale = new Pairs(SCALE_ROOM);
            scale.append(0, 0);
            scale.append(FIRST_EXTENSION, TOP_READING);
            weights = new Weights();
        }

        private void copyFrom(Bench other) {
            spring.copyFrom(other.spring);
            scale.copyFrom(other.scale);
            weights.copyFrom(other.weights);
        }

        private int reading() {
            return scale.valueAt(spring.pointer, PLAIN);
        }

        private int refusalOfLoad(int load) {
            return weights.massOnPan() > load ? PAN_TOO_HEAVY : FINE;
        }

        private int refusalOfPut(int weight) {
            if (!weights.has(weight)) {
                return NO_SUCH_WEIGHT;
            }
            if (weights.isOnPan(weight)) {
                return ON_OR_OFF_ALREADY;
            }
            return spring.load + weights.mass(weight) > TOP_LOAD ? LOAD_TOO_GREAT : FINE;
        }

        private int refusalOfTake(int weight) {
            if (!weights.has(weight)) {
                return NO_SUCH_WEIGHT;
            }
            return weights.isOnPan(weight) ? FINE : ON_OR_OFF_ALREADY;
        }

        private int refusalOfZero() {
            return spring.load == 0 ? FINE : NOT_AT_ZERO;
        }

        private int refusalOf(char move, int number) {
            switch (move) {
                case '+': return refusalOfPut(number);
                case '-': return refusalOfTake(number);
                case '=': return refusalOfLoad(number);
                case 'z': return refusalOfZero();
                default: return FINE;
            }
        }

        private void carryOut(char move, int number) {
            switch (move) {
                case '+': putOn(number); break;
                case '-': takeOff(number); break;
                case '=': spring.changeLoad(number); break;
                case 'h': spring.passHours(number); break;
                default: spring.rest(); break;
            }
        }

        private void putOn(int weight) {
            weights.lay(weight, 1);
            spring.changeLoad(spring.load + weights.mass(weight));
        }

        private void takeOff(int weight) {
            weights.lay(weight, 0);
            spring.changeLoad(spring.load - weights.mass(weight));
        }
    }

    /** The benches before the latest changes, the latest one last. */
    private static final class History {
        private final Bench[] benches = new Bench[HISTORY_ROOM];
        private int size;

        private History() {
            for (int i = 0; i < benches.length; i++) {
                benches[i] = new Bench();
            }
        }

        private void record(Bench now) {
            if (size < benches.length) {
                size++;
            } else {
                moveOldestToEnd();
            }
            copy(now, benchAt(size - 1));
        }

        private void restore(Bench now) {
            if (size > 0) {
                size--;
                copy(benchAt(size), now);
            }
        }

        /** The oldest bench is written over next, so it is kept as an object and dropped as a state. */
        private void moveOldestToEnd() {
            Bench oldest = benchAt(0);
            for (int i = 1; i < benches.length; i++) {
                benches[i - 1] = benches[i];
            }
            if (benches.length > 0) {
                benches[benches.length - 1] = oldest;
            }
        }

        private Bench benchAt(int index) {
            return index >= 0 && index < benches.length ? benches[index] : null;
        }

        private static void copy(Bench from, Bench to) {
            if (from != null && to != null) {
                to.copyFrom(from);
            }
        }
    }

    /** The text, and the move in it that was read last. */
    private static final class Text {
        private final char[] signs = new char[TEXT_ROOM];
        private int length;
        private char kind;
        private int number;
        private int digits;
        private int next;

        private void append(char sign) {
            if (length < signs.length) {
                signs[length] = sign;
                length++;
            }
        }

        private char signAt(int index) {
            return index >= 0 && index < length ? signs[index] : ' ';
        }

        /** The length of the text if there is no fault. */
        private int positionOfFault() {
            int start = 0;
            for (int i = 0; i < TEXT_ROOM && start < length; i++) {
                if (!readMove(start)) {
                    return start;
                }
                start = next;
            }
            return length;
        }

        /** False at a fault and at the end of the text. */
        private boolean readMove(int start) {
            kind = signAt(start);
            switch (kind) {
                case '+':
                case '-':
                    readNumber(start + 1, 1);
                    return digits == 1 && stepBehind(start + 2);
                case '=':
                    readNumber(start + 1, 4);
                    return digits > 0 && number <= TOP_LOAD && stepBehind(start + 1 + digits);
                case 'h':
                    readNumber(start + 1, 3);
                    return digits > 0 && !isOutside(number, 1, TOP_HOURS) && stepBehind(start + 1 + digits);
                case 'z':
                    number = 0;
                    return stepBehind(start + 1);
                default:
                    return false;
            }
        }

        private void readNumber(int start, int mostDigits) {
            number = 0;
            digits = 0;
            while (digits < mostDigits && isDigit(signAt(start + digits))) {
                number = number * 10 + (signAt(start + digits) - '0');
                digits++;
            }
        }

        private static boolean isDigit(char sign) {
            return sign >= '0' && sign <= '9';
        }

        /** Whether a move may end here: with the text, or before ";" and a further character. */
        private boolean stepBehind(int end) {
            next = end == length ? end : end + 1;
            return end == length || (signAt(end) == ';' && next < length);
        }
    }

    /** A calibration, made on a spring of its own. */
    private static final class Trial {
        // The spring of a trial turns once, when all the weights are on the pan.
        private final Spring spring = new Spring(1);
        private final Pairs breaks = new Pairs(SCALE_ROOM);
        private final int[] goingUp = new int[SET_ROOM + 1];
        private final int[] comingDown = new int[SET_ROOM + 1];
        private final int[] told = new int[SET_ROOM + 1];
        private int number;
        private int variance;

        private void run(Bench bench, int set) {
            spring.becomeUnloaded(bench.spring);
            putAllOn(bench.weights, set);
            takeAllOff(bench.weights, set);
            layBreaks();
        }

        private void putAllOn(Weights weights, int set) {
            number = 0;
            variance = 0;
            goingUp[0] = spring.pointer;
            told[0] = 0;
            for (int i = 0; i < weights.size; i++) {
                if (Weights.isInSet(set, i) && number < SET_ROOM) {
                    spring.changeLoad(spring.load + weights.mass(i));
                    variance += weights.totalVariance(i);
                    told[number + 1] = told[number] + weights.told(i);
                    goingUp[number + 1] = spring.pointer;
                    number++;
                }
            }
        }

        private void takeAllOff(Weights weights, int set) {
            int left = number;
            comingDown[left] = spring.pointer;
            for (int i = weights.size - 1; i >= 0; i--) {
                if (Weights.isInSet(set, i) && left > 0) {
                    spring.changeLoad(spring.load - weights.mass(i));
                    left--;
                    comingDown[left] = spring.pointer;
                }
            }
        }

        private void layBreaks() {
            breaks.shrinkTo(0);
            for (int k = 0; k <= number && k <= SET_ROOM; k++) {
                breaks.append(Math.floorDiv(goingUp[k] + comingDown[k], 2), told[k]);
            }
        }

        private int width() {
            int width = comingDown[0] - goingUp[0];
            for (int k = 1; k <= number && k <= SET_ROOM; k++) {
                width = Math.max(width, comingDown[k] - goingUp[k]);
            }
            return width;
        }

        private boolean isScale() {
            for (int k = 0; k < breaks.size; k++) {
                if (isOutside(breaks.first(k), LOWEST_PLACE, HIGHEST_PLACE)
                        || isOutside(breaks.second(k), 0, TOP_READING)) {
                    return false;
                }
                if (k > 0 && (breaks.first(k) <= breaks.first(k - 1) || breaks.second(k) <= breaks.second(k - 1))) {
                    return false;
                }
            }
            return true;
        }

        private int placeIn(int[] places, int k) {
            return k >= 0 && k <= number && k < places.length ? places[k] : NOT_FOUND;
        }

        private int property(int what) {
            if (what <= SET_ROOM) {
                return placeIn(goingUp, what);
            }
            switch (what) {
                case 12: return width();
                case 13: return variance;
                case 14: return isScale() ? 1 : 0;
                default: return placeIn(comingDown, what - SET_ROOM - 1);
            }
        }
    }
}
