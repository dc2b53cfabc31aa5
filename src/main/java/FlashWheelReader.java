/** A reader for marked wheels that are seen by flashes: ../shared/DOC.md says what each method does. */
public final class FlashWheelReader {
    public static final int BAD = -1001, STATE = -1002, FULL = -1003, NONE = -1004;

    private static final int MOST_CELLS = 60;
    private static final int MOST_MARK = 3;
    private static final int MOST_START = 59;
    private static final int MOST_SPEED = 1000;
    private static final int MOST_CHANGES = 5;
    private static final int LAST_TICK = 1000;
    private static final int MOST_PERIOD = 500;
    private static final int MOST_READINGS = 8;
    private static final int MOST_STEP = 30;
    private static final int MOST_LIMIT = 1000;
    private static final int MOST_DISC_CELLS = 30;
    private static final int MOST_DISC_START = 29;
    private static final int MOST_STATES = 8;
    private static final int MOST_CHARACTERS = 80;
    private static final int FIRST_CODE = 32;
    private static final int LAST_CODE = 126;
    private static final int NO_FAULT = 0;
    private static final int WRONG_CHARACTER = 1;
    private static final int WRONG_NUMBER = 2;
    private static final int FAULT_BASE = -10;
    private static final int NO_READING = -1;
    private static final int LAST_COUNT = 17;

    private final State now;
    private final History history;
    private final WheelText text;
    private final Wheel loaded;
    private final Candidates found;

    public FlashWheelReader() {
        now = new State();
        history = new History();
        text = new WheelText();
        loaded = new Wheel();
        found = new Candidates();
    }

    public int type(int code) {
        if (!within(code, FIRST_CODE, LAST_CODE)) return BAD;
        if (text.length >= MOST_CHARACTERS) return FULL;
        text.append(code);
        return text.length;
    }

    public int clearText() {
        int before = text.length;
        text.length = 0;
        return before;
    }

    public int load() {
        if (!text.readInto(loaded)) return FAULT_BASE - text.faultIndex;
        history.remember(now);
        now.wheel.copyFrom(loaded);
        return now.wheel.cells;
    }

    public int faultKind() {
        return text.fault;
    }

    public int setMark(int cell, int mark) {
        if (!isPlace(cell) || !within(mark, 0, MOST_MARK)) return BAD;
        history.remember(now);
        int before = now.wheel.markOf(cell);
        put(now.wheel.marks, cell, mark);
        return before;
    }

    public int setStart(int start) {
        if (!within(start, 0, MOST_START)) return BAD;
        history.remember(now);
        int before = now.wheel.start;
        now.wheel.start = start;
        return before;
    }

    public int setSpeed(int tick, int speed) {
        if (!isTick(tick) || !within(speed, -MOST_SPEED, MOST_SPEED)) return BAD;
        if (!now.wheel.hasRoomFor(tick)) return FULL;
        history.remember(now);
        now.wheel.putSpeed(tick, speed);
        return now.wheel.changes;
    }

    public int dropChange(int tick) {
        if (!now.wheel.hasChange(tick)) return BAD;
        history.remember(now);
        now.wheel.removeChange(tick);
        return now.wheel.changes;
    }

    public int markAt(int tick, int place) {
        if (!isTick(tick) || !isPlace(place)) return BAD;
        return now.wheel.markOf(mod(place - now.wheel.turnAt(tick), now.wheel.cells));
    }

    public int turn(int tick) {
        if (!isTick(tick)) return BAD;
        return mod(now.wheel.turnAt(tick), now.wheel.cells);
    }

    public int setFlash(int first, int period) {
        if (!isTick(first) || !within(period, 1, MOST_PERIOD)) return BAD;
        history.remember(now);
        now.flashes.first = first;
        now.flashes.period = period;
        return now.flashes.number();
    }

    public int flash(int flash, int what) {
        if (!isFlash(flash) || !within(what, 0, 3)) return BAD;
        int tick = now.flashes.tickOf(flash);
        switch (what) {
            case 0: return tick;
            case 1: return turn(tick);
            case 2: return isFlash(flash + 1) ? step(tick, now.flashes.tickOf(flash + 1)) : NONE;
            default: return now.earliestAlike(flash);
        }
    }

    public int step(int first, int second) {
        if (!isTick(first) || !isTick(second)) return BAD;
        return now.wheel.stepBetween(first, second, now.wheel.measure());
    }

    public int seems(int what) {
        if (!within(what, 0, 3)) return BAD;
        return what == 3 ? now.differentPictures() : now.countSeeming(what);
    }

    public int stillPeriod(int from, int to) {
        if (!within(from, 1, MOST_PERIOD) || !within(to, from, MOST_PERIOD)) return BAD;
        int measure = now.wheel.measure();
        for (int period = from; period <= to; period++) {
            if (mod(now.wheel.speed * period, measure) == 0) return period;
        }
        return NONE;
    }

    public int read(int ticks, int step) {
        if (!within(ticks, 1, MOST_PERIOD) || !within(step, -MOST_STEP, MOST_STEP)) return BAD;
        return addReading(ticks, step);
    }

    public int look(int flash) {
        if (!isFlash(flash) || flash == now.flashes.number() - 1) return BAD;
        return addReading(now.flashes.period, flash(flash, 2));
    }

    public int dropReading(int reading) {
        if (!isReading(reading)) return BAD;
        history.remember(now);
        now.readings.remove(reading);
        return now.readings.size;
    }

    public int reading(int reading, int what) {
        if (!isReading(reading) || !within(what, 0, 2)) return BAD;
        switch (what) {
            case 0: return at(now.readings.ticks, reading);
            case 1: return at(now.readings.steps, reading);
            default: return findWithout(reading).number();
        }
    }

    public int setLimit(int limit) {
        if (!within(limit, 1, MOST_LIMIT)) return BAD;
        history.remember(now);
        int before = now.readings.limit;
        now.readings.limit = limit;
        return before;
    }

    public int candidates() {
        return findWithout(NO_READING).number();
    }

    public int candidate(int k) {
        if (k < 0) return BAD;
        return findWithout(NO_READING).inOrder(k);
    }

    public int nearest(int speed) {
        if (!within(speed, -MOST_SPEED, MOST_SPEED)) return BAD;
        return findWithout(NO_READING).nearestTo(speed);
    }

    public int odd() {
        if (candidates() > 0) return STATE;
        for (int reading = 0; reading < now.readings.size; reading++) {
            if (findWithout(reading).number() > 0) return reading;
        }
        return NONE;
    }

    public int bestPeriod(int greatest, boolean rest) {
        if (!within(greatest, 1, MOST_PERIOD)) return BAD;
        Candidates all = findWithout(NO_READING);
        if (all.number() == 0) return NONE;
        all.countByRemainder();
        int best = 1;
        int least = all.restOf(1);
        for (int period = 2; period <= greatest; period++) {
            int other = all.restOf(period);
            if (other < least) {
                least = other;
                best = period;
            }
        }
        return rest ? least : best;
    }

    public int setDisc(int m, int open) {
        if (!within(m, 1, MOST_DISC_CELLS) || !within(open, 0, (1 << m) - 1)) return BAD;
        history.remember(now);
        now.disc.cells = m;
        now.disc.open = open;
        return Integer.bitCount(open);
    }

    public int turnDisc(int start, int speed) {
        if (!within(start, 0, MOST_DISC_START) || !within(speed, -MOST_SPEED, MOST_SPEED)) return BAD;
        history.remember(now);
        int before = now.disc.speed;
        now.disc.start = start;
        now.disc.speed = speed;
        return before;
    }

    public int isSeen(int tick) {
        if (!isTick(tick)) return BAD;
        return now.disc.isOpenAt(tick) ? 1 : 0;
    }

    public int opening(int opening, int what) {
        if (opening < 0 || !within(what, 0, 3)) return BAD;
        int first = now.disc.firstTickOf(opening);
        if (first < 0) return NONE;
        int ticks = now.disc.ticksFrom(first);
        switch (what) {
            case 0: return first;
            case 1: return ticks;
            case 2: return now.wheel.smearedPlaces(first, ticks);
            default: return now.wheel.looksTheSame(first, ticks) ? 1 : 0;
        }
    }

    public int smear(int opening, int place) {
        if (opening < 0 || !isPlace(place)) return BAD;
        int first = now.disc.firstTickOf(opening);
        if (first < 0) return NONE;
        long turns = now.wheel.turnsModulo(now.wheel.cells, first, now.disc.ticksFrom(first), 1);
        return now.wheel.marksPassing(place, turns);
    }

    public int undo() {
        if (history.size == 0) return STATE;
        history.restore(now);
        return history.size;
    }

    public int count(int what) {
        switch (what) {
            case 0: return now.wheel.cells;
            case 1: return now.wheel.markedCells();
            case 2: return now.wheel.measure();
            case 3: return now.wheel.start;
            case 4: return now.wheel.speed;
            case 5: return now.wheel.changes;
            case 6: return now.flashes.first;
            case 7: return now.flashes.period;
            case 8: return now.flashes.number();
            case 9: return now.readings.size;
            case 10: return now.readings.limit;
            case 11: return now.disc.cells;
            case 12: return now.disc.open;
            case 13: return now.disc.start;
            case 14: return now.disc.speed;
            case 15: return now.disc.openings();
            case 16: return text.length;
            case LAST_COUNT: return history.size;
            default: return BAD;
        }
    }

    public long digest() {
        long h = 12956;
        for (int what = 0; what <= LAST_COUNT; what++) h = 31 * h + count(what);
        h = digestOfPictures(h);
        h = digestOfReadings(h);
        return digestOfOpenings(h);
    }

    private long digestOfPictures(long before) {
        long h = before;
        for (int place = 0; place < now.wheel.cells; place++) {
            h = 31 * h + markAt(0, place);
            h = 31 * h + markAt(LAST_TICK, place);
        }
        for (int flash = 0; flash < 20 && isFlash(flash); flash++) {
            for (int what = 0; what <= 3; what++) h = 31 * h + flash(flash, what);
        }
        for (int what = 0; what <= 3; what++) h = 31 * h + seems(what);
        return h;
    }

    private long digestOfReadings(long before) {
        long h = before;
        for (int reading = 0; reading < now.readings.size; reading++) {
            for (int what = 0; what <= 2; what++) h = 31 * h + reading(reading, what);
        }
        h = 31 * h + candidates();
        for (int k = 0; k <= 4; k++) h = 31 * h + candidate(k);
        h = 31 * h + nearest(0);
        h = 31 * h + bestPeriod(20, false);
        return 31 * h + bestPeriod(20, true);
    }

    private long digestOfOpenings(long before) {
        long h = before;
        for (int opening = 0; opening <= 4; opening++) {
            for (int what = 0; what <= 3; what++) h = 31 * h + opening(opening, what);
            h = 31 * h + smear(opening, 0);
        }
        return h;
    }

    private int addReading(int ticks, int step) {
        if (now.readings.size >= MOST_READINGS) return FULL;
        history.remember(now);
        now.readings.add(ticks, step);
        return now.readings.size - 1;
    }

    private Candidates findWithout(int reading) {
        found.find(now.wheel.measure(), now.readings, reading);
        return found;
    }

    private boolean isPlace(int place) {
        return within(place, 0, now.wheel.cells - 1);
    }

    private boolean isFlash(int flash) {
        return within(flash, 0, now.flashes.number() - 1);
    }

    private boolean isReading(int reading) {
        return within(reading, 0, now.readings.size - 1);
    }

    private static boolean isTick(int tick) {
        return within(tick, 0, LAST_TICK);
    }

    private static boolean within(int value, int least, int greatest) {
        return value >= least && value <= greatest;
    }

    /** The remainder that is never negative; the divisor is tested here for all callers. */
    private static int mod(int value, int divisor) {
        if (divisor <= 0) return 0;
        int rest = value % divisor;
        return rest < 0 ? rest + divisor : rest;
    }

    private static boolean hasBit(long set, int bit) {
        return (set >>> bit & 1) == 1;
    }

    /** Rows are read here alone, so that no index is used before it has been looked at. */
    private static int at(int[] row, int index) {
        return index >= 0 && index < row.length ? row[index] : 0;
    }

    /** Rows are written here and in copyRow alone, for the same reason. */
    private static void put(int[] row, int index, int value) {
        if (index >= 0 && index < row.length) row[index] = value;
    }

    private static void copyRow(int[] from, int[] to) {
        for (int i = 0; i < from.length && i < to.length; i++) to[i] = from[i];
    }

    /** The marked cells with their start and speeds. */
    private static final class Wheel {
        final int[] marks = new int[MOST_CELLS];
        final int[] changeTicks = new int[MOST_CHANGES];
        final int[] changeSpeeds = new int[MOST_CHANGES];
        int cells = 12;
        int start;
        int speed;
        int changes;

        Wheel() {
            for (int cell = 0; cell < cells; cell += 3) put(marks, cell, 1);
        }

        void copyFrom(Wheel other) {
            copyRow(other.marks, marks);
            copyRow(other.changeTicks, changeTicks);
            copyRow(other.changeSpeeds, changeSpeeds);
            cells = other.cells;
            start = other.start;
            speed = other.speed;
            changes = other.changes;
        }

        void empty() {
            cells = 0;
            start = 0;
            speed = 0;
            changes = 0;
        }

        void addCell(int mark) {
            put(marks, cells, mark);
            cells++;
        }

        int markOf(int cell) {
            return at(marks, cell);
        }

        int markedCells() {
            int marked = 0;
            for (int cell = 0; cell < cells; cell++) {
                if (markOf(cell) != 0) marked++;
            }
            return marked;
        }

        int measure() {
            for (int way = 1; way < cells; way++) {
                if (mod(cells, way) == 0 && isSameTurnedBy(way)) return way;
            }
            return cells;
        }

        boolean isSameTurnedBy(int way) {
            for (int cell = 0; cell + way < cells; cell++) {
                if (at(marks, cell) != at(marks, cell + way)) return false;
            }
            return true;
        }

        /** The changes stand in the order of their ticks, so that turnAt can go through them once. */
        int placeOfChange(int tick) {
            int place = 0;
            while (place < changes && at(changeTicks, place) < tick) place++;
            return place;
        }

        boolean hasChange(int tick) {
            int place = placeOfChange(tick);
            return place < changes && at(changeTicks, place) == tick;
        }

        /** The speed of tick 0 is no change, so it never lacks room. */
        boolean hasRoomFor(int tick) {
            return tick == 0 || hasChange(tick) || changes < MOST_CHANGES;
        }

        void putSpeed(int tick, int newSpeed) {
            if (tick == 0) {
                speed = newSpeed;
                return;
            }
            if (!hasChange(tick)) insertChange(tick);
            put(changeSpeeds, placeOfChange(tick), newSpeed);
        }

        void insertChange(int tick) {
            int place = placeOfChange(tick);
            for (int i = changes; i > place; i--) {
                put(changeTicks, i, at(changeTicks, i - 1));
                put(changeSpeeds, i, at(changeSpeeds, i - 1));
            }
            put(changeTicks, place, tick);
            changes++;
        }

        void removeChange(int tick) {
            for (int i = placeOfChange(tick); i + 1 < changes; i++) {
                put(changeTicks, i, at(changeTicks, i + 1));
                put(changeSpeeds, i, at(changeSpeeds, i + 1));
            }
            changes--;
        }

        int turnAt(int tick) {
            int turned = start;
            int since = 0;
            int present = speed;
            for (int i = 0; i < changes && at(changeTicks, i) < tick; i++) {
                turned += present * (at(changeTicks, i) - since);
                since = at(changeTicks, i);
                present = at(changeSpeeds, i);
            }
            return turned + present * (tick - since);
        }

        /** The measure is handed in, as a loop over many ticks would find it anew each time. */
        int stepBetween(int first, int second, int measure) {
            int way = mod(turnAt(second) - turnAt(first), measure);
            return 2 * way > measure ? way - measure : way;
        }

        /** The set of the remainders of the turns; a long has room for it, as no divisor is above 60. */
        long turnsModulo(int divisor, int first, int number, int period) {
            long set = 0;
            for (int i = 0; i < number; i++) set |= 1L << mod(turnAt(first + i * period), divisor);
            return set;
        }

        boolean looksTheSame(int first, int ticks) {
            return Long.bitCount(turnsModulo(measure(), first, ticks, 1)) == 1;
        }

        int smearedPlaces(int first, int ticks) {
            long turns = turnsModulo(cells, first, ticks, 1);
            int smeared = 0;
            for (int place = 0; place < cells; place++) {
                if (Integer.bitCount(marksPassing(place, turns)) > 1) smeared++;
            }
            return smeared;
        }

        int marksPassing(int place, long turns) {
            int set = 0;
            for (int way = 0; way < cells; way++) {
                if (hasBit(turns, way)) set |= 1 << markOf(mod(place - way, cells));
            }
            // The bit of "no mark" falls out here, and that of mark k becomes bit k - 1.
            return set >> 1;
        }
    }

    /** The ticks at which the wheel is shown. */
    private static final class Flashes {
        int first;
        int period = 1;

        void copyFrom(Flashes other) {
            first = other.first;
            period = other.period;
        }

        int number() {
            return period > 0 ? (LAST_TICK - first) / period + 1 : 0;
        }

        int tickOf(int flash) {
            return first + flash * period;
        }
    }

    /** What was seen of the wheel's steps, and how great its speed may be. */
    private static final class Readings {
        final int[] ticks = new int[MOST_READINGS];
        final int[] steps = new int[MOST_READINGS];
        int size;
        int limit = 100;

        void copyFrom(Readings other) {
            copyRow(other.ticks, ticks);
            copyRow(other.steps, steps);
            size = other.size;
            limit = other.limit;
        }

        void add(int newTicks, int newStep) {
            put(ticks, size, newTicks);
            put(steps, size, newStep);
            size++;
        }

        void remove(int reading) {
            for (int i = reading; i + 1 < size; i++) {
                put(ticks, i, at(ticks, i + 1));
                put(steps, i, at(steps, i + 1));
            }
            size--;
        }

        boolean allFit(int speed, int measure, int without) {
            for (int i = 0; i < size; i++) {
                if (i != without && mod(speed * at(ticks, i) - at(steps, i), measure) != 0) return false;
            }
            return true;
        }
    }

    /** The speeds that fit; one object serves all calls, so that no call needs room of its own. */
    private static final class Candidates {
        final int[] byRemainder = new int[MOST_CELLS];
        final int[] classes = new int[MOST_CELLS];
        int measure;
        int limit;
        long fitting;

        /** Whether a speed fits depends on its remainder alone, so that each remainder is tried once. */
        void find(int ofWheel, Readings readings, int without) {
            measure = ofWheel;
            limit = readings.limit;
            fitting = 0;
            for (int rest = 0; rest < measure; rest++) {
                if (readings.allFit(rest, measure, without)) fitting |= 1L << rest;
            }
        }

        boolean has(int speed) {
            return hasBit(fitting, mod(speed, measure));
        }

        int number() {
            int number = 0;
            for (int speed = -limit; speed <= limit; speed++) {
                if (has(speed)) number++;
            }
            return number;
        }

        int inOrder(int k) {
            int before = 0;
            for (int speed = -limit; speed <= limit; speed++) {
                if (has(speed)) {
                    if (before == k) return speed;
                    before++;
                }
            }
            return NONE;
        }

        int nearestTo(int wanted) {
            int best = NONE;
            int least = 0;
            for (int speed = -limit; speed <= limit; speed++) {
                int distance = Math.abs(speed - wanted);
                if ((best == NONE || distance < least) && has(speed)) {
                    least = distance;
                    best = speed;
                }
            }
            return best;
        }

        void countByRemainder() {
            for (int rest = 0; rest < measure; rest++) put(byRemainder, rest, 0);
            for (int speed = -limit; speed <= limit; speed++) {
                int rest = mod(speed, measure);
                if (has(speed)) put(byRemainder, rest, at(byRemainder, rest) + 1);
            }
        }

        /** Stands on countByRemainder, which is called once for all periods. */
        int restOf(int period) {
            for (int kind = 0; kind < measure; kind++) put(classes, kind, 0);
            int largest = 0;
            for (int rest = 0; rest < measure; rest++) {
                int kind = mod(rest * period, measure);
                put(classes, kind, at(classes, kind) + at(byRemainder, rest));
                largest = Math.max(largest, at(classes, kind));
            }
            return largest;
        }
    }

    /** The disc with slots that turns before the wheel. */
    private static final class Disc {
        int cells = 1;
        int open = 1;
        int start;
        int speed;

        void copyFrom(Disc other) {
            cells = other.cells;
            open = other.open;
            start = other.start;
            speed = other.speed;
        }

        boolean isOpenAt(int tick) {
            return hasBit(open, mod(-(start + speed * tick), cells));
        }

        boolean opensAt(int tick) {
            return isOpenAt(tick) && (tick == 0 || !isOpenAt(tick - 1));
        }

        int openings() {
            int number = 0;
            for (int tick = 0; tick <= LAST_TICK; tick++) {
                if (opensAt(tick)) number++;
            }
            return number;
        }

        /** Answers -1 if there are not so many openings. */
        int firstTickOf(int opening) {
            int before = 0;
            for (int tick = 0; tick <= LAST_TICK; tick++) {
                if (opensAt(tick)) {
                    if (before == opening) return tick;
                    before++;
                }
            }
            return -1;
        }

        int ticksFrom(int first) {
            int tick = first;
            while (tick <= LAST_TICK && isOpenAt(tick)) tick++;
            return tick - first;
        }
    }

    /** All that a change changes and undo brings back. */
    private static final class State {
        final Wheel wheel = new Wheel();
        final Flashes flashes = new Flashes();
        final Readings readings = new Readings();
        final Disc disc = new Disc();

        void copyFrom(State other) {
            wheel.copyFrom(other.wheel);
            flashes.copyFrom(other.flashes);
            readings.copyFrom(other.readings);
            disc.copyFrom(other.disc);
        }

        int earliestAlike(int flash) {
            int measure = wheel.measure();
            int picture = mod(wheel.turnAt(flashes.tickOf(flash)), measure);
            for (int earlier = 0; earlier < flash; earlier++) {
                if (mod(wheel.turnAt(flashes.tickOf(earlier)), measure) == picture) return earlier;
            }
            return flash;
        }

        int countSeeming(int way) {
            int measure = wheel.measure();
            int number = flashes.number();
            int times = 0;
            for (int flash = 0; flash + 1 < number; flash++) {
                int gone = wheel.stepBetween(flashes.tickOf(flash), flashes.tickOf(flash + 1), measure);
                int seen = gone == 0 ? 0 : gone > 0 ? 1 : 2;
                if (seen == way) times++;
            }
            return times;
        }

        int differentPictures() {
            return Long.bitCount(
                    wheel.turnsModulo(wheel.measure(), flashes.first, flashes.number(), flashes.period));
        }
    }

    /** The remembered states, in a ring: the oldest one gives its place to the newest. */
    private static final class History {
        private final State[] ring = new State[MOST_STATES];
        private int next;
        int size;

        History() {
            for (int i = 0; i < ring.length; i++) ring[i] = new State();
        }

        void remember(State state) {
            State slot = slotAt(next);
            if (slot == null) return;
            slot.copyFrom(state);
            next = mod(next + 1, MOST_STATES);
            if (size < MOST_STATES) size++;
        }

        void restore(State state) {
            int latest = mod(next - 1, MOST_STATES);
            State slot = slotAt(latest);
            if (slot == null || size == 0) return;
            state.copyFrom(slot);
            next = latest;
            size--;
        }

        private State slotAt(int index) {
            return index >= 0 && index < ring.length ? ring[index] : null;
        }
    }

    /** The text buffer, and how it is read as a wheel. */
    private static final class WheelText {
        private final int[] codes = new int[MOST_CHARACTERS];
        private int next;
        int length;
        int fault = NO_FAULT;
        int faultIndex;

        void append(int code) {
            put(codes, length, code);
            length++;
        }

        /** Fills the wheel only halfway where there is a fault: the caller keeps one for this. */
        boolean readInto(Wheel wheel) {
            next = 0;
            fault = NO_FAULT;
            wheel.empty();
            readCells(wheel);
            if (fault == NO_FAULT && takes('@')) wheel.start = readNumber(2, MOST_START);
            if (fault == NO_FAULT && takes('*')) wheel.speed = readSpeed();
            if (fault == NO_FAULT && next < length) tellFault(WRONG_CHARACTER, next);
            return fault == NO_FAULT;
        }

        private void readCells(Wheel wheel) {
            while (next < length && wheel.cells < MOST_CELLS && isCell(code())) {
                wheel.addCell(code() == '.' ? 0 : code() - 'a' + 1);
                next++;
            }
            if (wheel.cells == 0) tellFault(WRONG_CHARACTER, next);
        }

        private int readSpeed() {
            return takes('-') ? -readNumber(4, MOST_SPEED) : readNumber(4, MOST_SPEED);
        }

        private int readNumber(int mostDigits, int greatest) {
            int first = next;
            int number = 0;
            while (isDigit(code()) && next - first < mostDigits) {
                number = 10 * number + code() - '0';
                next++;
            }
            // A digit here is one too many, and then the number has not ended, so its range is not judged.
            if (next == first || isDigit(code())) tellFault(WRONG_CHARACTER, next);
            else if (number > greatest) tellFault(WRONG_NUMBER, first);
            return number;
        }

        private boolean takes(int wanted) {
            if (code() != wanted) return false;
            next++;
            return true;
        }

        /** Answers 0, which no character has, at the end of the text. */
        private int code() {
            return next < length ? at(codes, next) : 0;
        }

        private void tellFault(int kind, int index) {
            fault = kind;
            faultIndex = index;
        }

        private static boolean isCell(int code) {
            return code == '.' || within(code, 'a', 'c');
        }

        private static boolean isDigit(int code) {
            return within(code, '0', '9');
        }
    }
}
