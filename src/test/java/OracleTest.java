import java.util.ArrayDeque;
import java.util.ArrayList;
import java.util.Arrays;
import java.util.HashMap;
import java.util.HashSet;
import java.util.List;
import java.util.Map;
import java.util.TreeMap;

/**
 * Long runs of calls against a second, slow reader that goes tick by tick, with whole pictures, as the document tells
 * it; each run is drawn from a number of its own, so that it is the same each time.
 */
public final class OracleTest {
    private static final int BAD = -1001, STATE = -1002, FULL = -1003, NONE = -1004;
    private static final int RUNS = 500;
    /** A text and what follows it may still be read behind this many calls, and an object is promised for 512 alone. */
    private static final int CALLS = 400;
    private static final Dues DUES = new Dues("OracleTest");
    private static long drawn;
    private static int made;

    public static void main(String[] args) {
        for (int run = 0; run < RUNS; run++) run(run);
        DUES.end();
    }

    private static void run(int run) {
        drawn = run * 7919L + 17;
        made = 0;
        FlashWheelReader x = new FlashWheelReader();
        Slow slow = new Slow();
        for (int call = 0; made < CALLS; call++) {
            int method = draw(0, 32);
            int a = draw(-2, 9);
            int b = draw(-2, 9);
            switch (method) {
                case 0: case 1: case 2: loadText(run, x, slow); break;
                case 3: case 4: {
                    int cell = draw(-1, draw(0, 3) == 0 ? 60 : slow.s.marks.length);
                    int mark = draw(-1, 4);
                    due(run, call, "setMark", x.setMark(cell, mark), slow.setMark(cell, mark));
                    break;
                }
                case 5: a = draw(-1, 60); due(run, call, "setStart", x.setStart(a), slow.setStart(a)); break;
                case 6: case 7: a = tick(); b = speed(); due(run, call, "setSpeed", x.setSpeed(a, b), slow.setSpeed(a, b)); break;
                case 8: a = tick(); due(run, call, "dropChange", x.dropChange(a), slow.dropChange(a)); break;
                case 9: a = tick(); b = draw(-1, 60); due(run, call, "markAt", x.markAt(a, b), slow.markAt(a, b)); break;
                case 10: a = tick(); due(run, call, "turn", x.turn(a), slow.turn(a)); break;
                case 11: a = tick(); b = period(); due(run, call, "setFlash", x.setFlash(a, b), slow.setFlash(a, b)); break;
                case 12: a = draw(-1, slow.flashes()); due(run, call, "flash", x.flash(a, b), slow.flash(a, b)); break;
                case 13: a = tick(); b = tick(); due(run, call, "step", x.step(a, b), slow.step(a, b)); break;
                case 14: due(run, call, "seems", x.seems(a), slow.seems(a)); break;
                case 15: a = period(); b = period(); due(run, call, "stillPeriod", x.stillPeriod(a, b), slow.stillPeriod(a, b)); break;
                case 16: a = period(); b = draw(-31, 31); due(run, call, "read", x.read(a, b), slow.read(a, b)); break;
                case 17: case 18: a = draw(-1, slow.flashes()); due(run, call, "look", x.look(a), slow.look(a)); break;
                case 19: due(run, call, "dropReading", x.dropReading(a), slow.dropReading(a)); break;
                case 20: due(run, call, "reading", x.reading(a, b), slow.reading(a, b)); break;
                case 21: a = draw(0, 3) == 0 ? draw(-1, 1001) : draw(1, 40); due(run, call, "setLimit", x.setLimit(a), slow.setLimit(a)); break;
                case 22: due(run, call, "candidates", x.candidates(), slow.candidates(-1).size()); break;
                case 23: a = draw(-1, slow.candidates(-1).size()); due(run, call, "candidate", x.candidate(a), slow.candidate(a)); break;
                case 24: a = speed(); due(run, call, "nearest", x.nearest(a), slow.nearest(a)); break;
                case 25: due(run, call, "odd", x.odd(), slow.odd()); break;
                case 26: {
                    int greatest = draw(0, 5) == 0 ? period() : draw(0, 30);
                    boolean rest = draw(0, 1) == 1;
                    due(run, call, "bestPeriod", x.bestPeriod(greatest, rest), slow.bestPeriod(greatest, rest));
                    break;
                }
                case 27: {
                    int m = draw(0, 31);
                    int open = draw(0, 1) == 0 ? draw(-1, Integer.MAX_VALUE) & (1 << Math.min(m, 30)) - 1 : draw(-1, 70);
                    due(run, call, "setDisc", x.setDisc(m, open), slow.setDisc(m, open));
                    break;
                }
                case 28: a = draw(-1, 30); b = draw(0, 1) == 0 ? speed() : draw(-2, 2); due(run, call, "turnDisc", x.turnDisc(a, b), slow.turnDisc(a, b)); break;
                case 29: a = tick(); due(run, call, "isSeen", x.isSeen(a), slow.isSeen(a)); break;
                case 30: a = draw(-1, draw(0, 2) == 0 ? 500 : 4); due(run, call, "opening", x.opening(a, b), slow.opening(a, b)); break;
                case 31: a = draw(-1, draw(0, 2) == 0 ? 500 : 4); b = draw(-1, 30); due(run, call, "smear", x.smear(a, b), slow.smear(a, b)); break;
                default: due(run, call, "undo", x.undo(), slow.undo()); break;
            }
            a = draw(-1, 18);
            due(run, call, "count(" + a + ")", x.count(a), slow.count(a));
            due(run, call, "faultKind", x.faultKind(), slow.fault);
            if (call % 16 == 15) due(run, call, "digest", x.digest(), slow.digest());
        }
        while (slow.undo() >= 0) due(run, CALLS, "undo", x.undo(), slow.past.size());
        due(run, CALLS, "digest at the end", x.digest(), slow.digest());
    }

    /** Mostly good texts of small wheels; else one with a character too many, too few or changed. */
    private static void loadText(int run, FlashWheelReader x, Slow slow) {
        StringBuilder text = new StringBuilder();
        int part = draw(1, draw(0, 4) == 0 ? 61 : 8);
        for (int i = 0; i < part; i++) text.append("..abc".charAt(draw(0, 4)));
        String cells = text.toString();
        for (int more = draw(0, 3); more > 0 && text.length() + part < 60; more--) text.append(cells);
        if (draw(0, 1) == 0) text.append('@').append(draw(0, 8) == 0 ? draw(0, 120) : draw(0, 59));
        if (draw(0, 1) == 0) text.append('*').append(draw(0, 8) == 0 ? draw(-11000, 11000) : draw(-20, 20));
        if (draw(0, 3) == 0) {
            int place = draw(0, text.length() - 1);
            int kind = draw(0, 2);
            if (kind == 0) text.deleteCharAt(place);
            if (kind == 1) text.setCharAt(place, other());
            if (kind == 2) text.insert(place, other());
        }
        due(run, -1, "clearText", x.clearText(), slow.text.length());
        slow.text.setLength(0);
        for (int i = 0; i < text.length(); i++) {
            due(run, -1, "type", x.type(text.charAt(i)), slow.type(text.charAt(i)));
        }
        due(run, -1, "load of " + text, x.load(), slow.load());
    }

    private static char other() {
        return draw(0, 3) == 0 ? (char) draw(32, 126) : ".abc@*-0159".charAt(draw(0, 10));
    }

    private static int tick() {
        int kind = draw(0, 9);
        return kind == 0 ? 0 : kind == 1 ? draw(-1, 1001) : kind == 2 ? draw(995, 1001) : draw(0, 12);
    }

    private static int speed() {
        return draw(0, 4) == 0 ? draw(-1001, 1001) : draw(-15, 15);
    }

    private static int period() {
        int kind = draw(0, 9);
        return kind == 0 ? draw(0, 501) : kind == 1 ? draw(498, 501) : draw(1, 40);
    }

    private static int draw(int least, int greatest) {
        drawn = drawn * 6364136223846793005L + 1442695040888963407L;
        return least + (int) ((drawn >>> 33) % ((long) greatest - least + 1));
    }

    private static void due(int run, int call, String name, long got, long want) {
        made++;
        DUES.due("run " + run + ", call " + call + ": " + name, got, want);
    }

    /** All that undo brings back. */
    private static final class Remembered {
        int[] marks = {1, 0, 0, 1, 0, 0, 1, 0, 0, 1, 0, 0};
        int start, first, discStart, discSpeed;
        int period = 1, limit = 100, m = 1, open = 1;
        TreeMap<Integer, Integer> speeds = new TreeMap<>(Map.of(0, 0));
        List<int[]> readings = new ArrayList<>();

        Remembered copy() {
            Remembered copy = new Remembered();
            copy.marks = marks.clone();
            copy.start = start;
            copy.first = first;
            copy.discStart = discStart;
            copy.discSpeed = discSpeed;
            copy.period = period;
            copy.limit = limit;
            copy.m = m;
            copy.open = open;
            copy.speeds = new TreeMap<>(speeds);
            copy.readings = new ArrayList<>(readings);
            return copy;
        }
    }

    private static final class Slow {
        Remembered s = new Remembered();
        ArrayDeque<Remembered> past = new ArrayDeque<>();
        StringBuilder text = new StringBuilder();
        int fault;

        void remember() {
            past.addLast(s.copy());
            if (past.size() > 8) past.removeFirst();
        }

        static boolean out(int value, int least, int greatest) {
            return value < least || value > greatest;
        }

        int type(int code) {
            if (out(code, 32, 126)) return BAD;
            if (text.length() == 80) return FULL;
            return text.append((char) code).length();
        }

        int load() {
            int number = 0, numberFrom = 0, digits = 0, start = 0, speed = 0;
            char where = 'c';
            boolean minus = false;
            fault = 0;
            StringBuilder cells = new StringBuilder();
            for (int i = 0; i <= text.length(); i++) {
                char c = i < text.length() ? text.charAt(i) : '\n';
                boolean digit = c >= '0' && c <= '9';
                if (where == 'c') {
                    if (".abc".indexOf(c) >= 0 && cells.length() < 60) { cells.append(c); continue; }
                    if (cells.length() == 0) return faultAt(i, 1);
                } else {
                    if (c == '-' && where == '*' && digits == 0 && !minus) { minus = true; continue; }
                    if (digit && digits < (where == '@' ? 2 : 4)) {
                        if (digits == 0) numberFrom = i;
                        number = number * 10 + c - '0';
                        digits++;
                        continue;
                    }
                    if (digit || digits == 0) return faultAt(i, 1);
                    if (number > (where == '@' ? 59 : 1000)) return faultAt(numberFrom, 2);
                    if (where == '@') start = number; else speed = minus ? -number : number;
                }
                if (c == '\n') break;
                boolean goesOn = c == '@' && where == 'c' || c == '*' && where != '*';
                if (!goesOn) return faultAt(i, 1);
                where = c;
                number = 0;
                digits = 0;
            }
            remember();
            s.marks = new int[cells.length()];
            for (int i = 0; i < s.marks.length; i++) s.marks[i] = ".abc".indexOf(cells.charAt(i));
            s.start = start;
            s.speeds = new TreeMap<>(Map.of(0, speed));
            return s.marks.length;
        }

        int faultAt(int index, int kind) {
            fault = kind;
            return -10 - index;
        }

        int setMark(int cell, int mark) {
            if (out(cell, 0, s.marks.length - 1) || out(mark, 0, 3)) return BAD;
            remember();
            int before = s.marks[cell];
            s.marks[cell] = mark;
            return before;
        }

        int setStart(int start) {
            if (out(start, 0, 59)) return BAD;
            remember();
            int before = s.start;
            s.start = start;
            return before;
        }

        int setSpeed(int tick, int speed) {
            if (out(tick, 0, 1000) || out(speed, -1000, 1000)) return BAD;
            if (!s.speeds.containsKey(tick) && s.speeds.size() == 6) return FULL;
            remember();
            s.speeds.put(tick, speed);
            return s.speeds.size() - 1;
        }

        int dropChange(int tick) {
            if (tick == 0 || !s.speeds.containsKey(tick)) return BAD;
            remember();
            s.speeds.remove(tick);
            return s.speeds.size() - 1;
        }

        int allTurned(int tick) {
            int turned = s.start;
            for (int t = 0; t < tick; t++) turned += s.speeds.floorEntry(t).getValue();
            return turned;
        }

        int turn(int tick) {
            return out(tick, 0, 1000) ? BAD : Math.floorMod(allTurned(tick), s.marks.length);
        }

        int[] picture(int tick) {
            return turned(s.marks, allTurned(tick));
        }

        static int[] turned(int[] picture, int by) {
            int[] after = new int[picture.length];
            for (int p = 0; p < picture.length; p++) after[Math.floorMod(p + by, picture.length)] = picture[p];
            return after;
        }

        int measure() {
            int measure = 1;
            while (!Arrays.equals(turned(s.marks, measure), s.marks)) measure++;
            return measure;
        }

        int markAt(int tick, int place) {
            if (out(tick, 0, 1000) || out(place, 0, s.marks.length - 1)) return BAD;
            return picture(tick)[place];
        }

        int flashes() {
            int number = 0;
            for (int tick = s.first; tick <= 1000; tick += s.period) number++;
            return number;
        }

        int setFlash(int first, int period) {
            if (out(first, 0, 1000) || out(period, 1, 500)) return BAD;
            remember();
            s.first = first;
            s.period = period;
            return flashes();
        }

        int flash(int flash, int what) {
            if (out(flash, 0, flashes() - 1) || out(what, 0, 3)) return BAD;
            int tick = s.first + flash * s.period;
            if (what == 0) return tick;
            if (what == 1) return turn(tick);
            if (what == 2) return flash == flashes() - 1 ? NONE : step(tick, tick + s.period);
            int earliest = 0;
            while (!Arrays.equals(picture(s.first + earliest * s.period), picture(tick))) earliest++;
            return earliest;
        }

        int step(int first, int second) {
            if (out(first, 0, 1000) || out(second, 0, 1000)) return BAD;
            return stepOf(picture(first), picture(second), measure());
        }

        static int stepOf(int[] from, int[] to, int measure) {
            for (int d = -measure; d <= measure; d++) {
                if (-measure < 2 * d && 2 * d <= measure && Arrays.equals(turned(from, d), to)) return d;
            }
            return Integer.MIN_VALUE;
        }

        int seems(int what) {
            if (out(what, 0, 3)) return BAD;
            int[] counts = new int[3];
            HashSet<String> pictures = new HashSet<>();
            int[] before = null;
            int measure = measure();
            for (int tick = s.first; tick <= 1000; tick += s.period) {
                int[] picture = picture(tick);
                pictures.add(Arrays.toString(picture));
                if (before != null) {
                    int step = stepOf(before, picture, measure);
                    counts[step == 0 ? 0 : step > 0 ? 1 : 2]++;
                }
                before = picture;
            }
            return what == 3 ? pictures.size() : counts[what];
        }

        int stillPeriod(int from, int to) {
            if (out(from, 1, 500) || out(to, from, 500)) return BAD;
            for (int p = from; p <= to; p++) {
                if (Arrays.equals(turned(s.marks, s.speeds.get(0) * p), s.marks)) return p;
            }
            return NONE;
        }

        int read(int ticks, int step) {
            if (out(ticks, 1, 500) || out(step, -30, 30)) return BAD;
            if (s.readings.size() == 8) return FULL;
            remember();
            s.readings.add(new int[] {ticks, step});
            return s.readings.size() - 1;
        }

        int look(int flash) {
            if (out(flash, 0, flashes() - 2)) return BAD;
            return read(s.period, flash(flash, 2));
        }

        int dropReading(int reading) {
            if (out(reading, 0, s.readings.size() - 1)) return BAD;
            remember();
            s.readings.remove(reading);
            return s.readings.size();
        }

        int reading(int reading, int what) {
            if (out(reading, 0, s.readings.size() - 1) || out(what, 0, 2)) return BAD;
            return what == 2 ? candidates(reading).size() : s.readings.get(reading)[what];
        }

        int setLimit(int limit) {
            if (out(limit, 1, 1000)) return BAD;
            remember();
            int before = s.limit;
            s.limit = limit;
            return before;
        }

        List<Integer> candidates(int without) {
            List<Integer> speeds = new ArrayList<>();
            int measure = measure();
            for (int speed = -s.limit; speed <= s.limit; speed++) {
                boolean fits = true;
                for (int i = 0; i < s.readings.size(); i++) {
                    int[] r = s.readings.get(i);
                    if (i != without && (speed * r[0] - r[1]) % measure != 0) fits = false;
                }
                if (fits) speeds.add(speed);
            }
            return speeds;
        }

        int candidate(int k) {
            if (k < 0) return BAD;
            List<Integer> speeds = candidates(-1);
            return k < speeds.size() ? speeds.get(k) : NONE;
        }

        int nearest(int speed) {
            if (out(speed, -1000, 1000)) return BAD;
            List<Integer> speeds = candidates(-1);
            if (speeds.isEmpty()) return NONE;
            for (int distance = 0; ; distance++) {
                if (speeds.contains(speed - distance)) return speed - distance;
                if (speeds.contains(speed + distance)) return speed + distance;
            }
        }

        int odd() {
            if (!candidates(-1).isEmpty()) return STATE;
            for (int i = 0; i < s.readings.size(); i++) {
                if (!candidates(i).isEmpty()) return i;
            }
            return NONE;
        }

        int bestPeriod(int greatest, boolean rest) {
            if (out(greatest, 1, 500)) return BAD;
            List<Integer> speeds = candidates(-1);
            if (speeds.isEmpty()) return NONE;
            int measure = measure(), best = 0, least = Integer.MAX_VALUE;
            for (int p = 1; p <= greatest; p++) {
                HashMap<Integer, Integer> classes = new HashMap<>();
                int largest = 0;
                for (int speed : speeds) largest = Math.max(largest, classes.merge(Math.floorMod(speed * p, measure), 1, Integer::sum));
                if (largest < least) { least = largest; best = p; }
            }
            return rest ? least : best;
        }

        int setDisc(int m, int open) {
            if (out(m, 1, 30) || open < 0 || (long) open >= 1L << m) return BAD;
            remember();
            s.m = m;
            s.open = open;
            return Integer.bitCount(open);
        }

        int turnDisc(int start, int speed) {
            if (out(start, 0, 29) || out(speed, -1000, 1000)) return BAD;
            remember();
            int before = s.discSpeed;
            s.discStart = start;
            s.discSpeed = speed;
            return before;
        }

        int isSeen(int tick) {
            if (out(tick, 0, 1000)) return BAD;
            int cell = (s.m - Math.floorMod(s.discStart + s.discSpeed * tick, s.m)) % s.m;
            return s.open >> cell & 1;
        }

        List<List<Integer>> openings() {
            List<List<Integer>> openings = new ArrayList<>();
            List<Integer> present = null;
            for (int tick = 0; tick <= 1000; tick++) {
                if (isSeen(tick) == 0) { present = null; continue; }
                if (present == null) openings.add(present = new ArrayList<>());
                present.add(tick);
            }
            return openings;
        }

        int opening(int opening, int what) {
            if (opening < 0 || out(what, 0, 3)) return BAD;
            List<List<Integer>> all = openings();
            if (opening >= all.size()) return NONE;
            List<Integer> ticks = all.get(opening);
            if (what == 0) return ticks.get(0);
            if (what == 1) return ticks.size();
            int[] smears = smears(ticks);
            int smeared = 0;
            for (int set : smears) if (Integer.bitCount(set) > 1) smeared++;
            if (what == 2) return smeared;
            for (int tick : ticks) if (!Arrays.equals(picture(tick), picture(ticks.get(0)))) return 0;
            return 1;
        }

        int[] smears(List<Integer> ticks) {
            int[] smears = new int[s.marks.length];
            for (int tick : ticks) {
                int[] picture = picture(tick);
                for (int p = 0; p < smears.length; p++) if (picture[p] > 0) smears[p] |= 1 << picture[p] - 1;
            }
            return smears;
        }

        int smear(int opening, int place) {
            if (opening < 0 || out(place, 0, s.marks.length - 1)) return BAD;
            List<List<Integer>> all = openings();
            return opening < all.size() ? smears(all.get(opening))[place] : NONE;
        }

        int undo() {
            if (past.isEmpty()) return STATE;
            s = past.removeLast();
            return past.size();
        }

        int count(int what) {
            if (out(what, 0, 17)) return BAD;
            int marked = 0;
            for (int mark : s.marks) if (mark > 0) marked++;
            return new int[] {s.marks.length, marked, measure(), s.start, s.speeds.get(0), s.speeds.size() - 1, s.first,
                s.period, flashes(), s.readings.size(), s.limit, s.m, s.open, s.discStart, s.discSpeed,
                openings().size(), text.length(), past.size()}[what];
        }

        long digest() {
            List<Integer> values = new ArrayList<>();
            for (int what = 0; what < 18; what++) values.add(count(what));
            for (int p = 0; p < s.marks.length; p++) values.addAll(List.of(markAt(0, p), markAt(1000, p)));
            for (int f = 0; f < Math.min(20, flashes()); f++) {
                for (int what = 0; what < 4; what++) values.add(flash(f, what));
            }
            for (int what = 0; what < 4; what++) values.add(seems(what));
            for (int r = 0; r < s.readings.size(); r++) {
                for (int what = 0; what < 3; what++) values.add(reading(r, what));
            }
            values.add(candidates(-1).size());
            for (int k = 0; k < 5; k++) values.add(candidate(k));
            values.addAll(List.of(nearest(0), bestPeriod(20, false), bestPeriod(20, true)));
            for (int o = 0; o < 5; o++) {
                for (int what = 0; what < 4; what++) values.add(opening(o, what));
                values.add(smear(o, 0));
            }
            long h = 12956;
            for (int value : values) h = 31 * h + value;
            return h;
        }
    }
}
