/** The section "Changes and errors", promises 32 and 34, and the 512 calls: what is remembered, and the hash. */
public final class HistoryTest {
    private static final int BAD = FlashWheelReader.BAD, STATE = FlashWheelReader.STATE;
    private static final int FULL = FlashWheelReader.FULL, NONE = FlashWheelReader.NONE;
    private static final int CHANGES = 12;
    private static final Dues DUES = new Dues("HistoryTest");

    public static void main(String[] args) {
        ask();
        DUES.end();
    }

    static void ask() {
        changes();
        noChanges();
        recorded();
        eightStates();
        latest();
        faultStays();
        codes();
        order();
        nothingChanges();
        none();
        undo();
        undoCounts();
        hashParts();
        hashOfFlashes();
        hashOfReadings();
        hashOfOpenings();
        calls();
    }

    private static FlashWheelReader busy() {
        FlashWheelReader x = Dues.loaded("abc.a.c@5*7");
        x.setSpeed(4, 3);
        x.setFlash(2, 6);
        x.read(5, 1);
        x.look(0);
        x.setDisc(6, 25);
        x.turnDisc(3, 5);
        return x;
    }

    private static int make(FlashWheelReader x, int change) {
        switch (change) {
            case 0: return x.load();
            case 1: return x.setMark(3, 2);
            case 2: return x.setStart(6);
            case 3: return x.setSpeed(6, 1);
            case 4: return x.dropChange(4);
            case 5: return x.setFlash(1, 5);
            case 6: return x.read(3, 2);
            case 7: return x.look(1);
            case 8: return x.dropReading(0);
            case 9: return x.setLimit(50);
            case 10: return x.setDisc(5, 1);
            default: return x.turnDisc(2, 2);
        }
    }

    private static void changes() {
        DUES.says("Changes and errors", "Changes are the successful calls of load, setMark, setStart, setSpeed, dropChange, setFlash, read, look, "
            + "dropReading, setLimit, setDisc and turnDisc.");
        for (int change = 0; change < CHANGES; change++) {
            FlashWheelReader x = busy();
            long before = x.digest();
            due("change " + change, make(x, change) >= 0 ? 1 : 0, 1);
            due("the states after change " + change, x.count(17), 8);
            due("undo() of change " + change, x.undo(), 7);
            due("the hash after undo() of change " + change, x.digest(), before);
        }
        FlashWheelReader x = new FlashWheelReader();
        Dues.type(x, "a..a..a..a..");
        x.load();
        x.setMark(0, 1);
        x.setStart(0);
        x.setSpeed(0, 0);
        x.setFlash(0, 1);
        x.setLimit(100);
        x.setDisc(1, 1);
        due("the states after changes to what is there", x.count(17), 7);
        x.turnDisc(0, 0);
        due("the states after one more", x.count(17), 8);
    }

    private static void noChanges() {
        DUES.says("Changes and errors", "Changes are the successful calls of load, setMark, setStart, setSpeed, dropChange, setFlash, read, look, "
            + "dropReading, setLimit, setDisc and turnDisc.");
        FlashWheelReader x = new FlashWheelReader();
        x.type('a');
        x.clearText();
        x.load();
        x.faultKind();
        x.markAt(0, 0);
        x.turn(0);
        x.flash(0, 0);
        x.step(0, 1);
        x.seems(0);
        x.stillPeriod(1, 2);
        x.candidates();
        x.candidate(0);
        x.nearest(0);
        x.odd();
        x.bestPeriod(5, true);
        x.isSeen(0);
        x.opening(0, 0);
        x.smear(0, 0);
        x.digest();
        due("the states after calls that are no changes", x.count(17), 0);
        x.setMark(12, 0);
        x.setStart(60);
        x.setSpeed(0, 1001);
        x.dropChange(1);
        x.setFlash(0, 0);
        x.read(0, 0);
        x.look(1000);
        x.dropReading(0);
        x.setLimit(0);
        x.setDisc(0, 0);
        x.turnDisc(30, 0);
        due("the states after calls that are not successful", x.count(17), 0);
        due("undo()", x.undo(), STATE);
    }

    private static void recorded() {
        DUES.says("Changes and errors", "Each change records the state before it: the wheel with its start and speeds, the flashes, "
            + "the readings with the limit, and the disc.");
        FlashWheelReader x = new FlashWheelReader();
        long before = x.digest();
        Dues.load(x, "ab@3*4");
        x.setSpeed(2, 9);
        x.setFlash(5, 6);
        x.read(7, 8);
        x.setLimit(9);
        x.setDisc(8, 7);
        x.turnDisc(6, 5);
        x.setMark(0, 0);
        due("setMark, undone", x.undo(), 7);
        due("markAt(0, 1)", x.markAt(0, 1), 1);
        due("turnDisc, undone", x.undo(), 6);
        due("count(13)", x.count(13), 0);
        due("count(14)", x.count(14), 0);
        due("setDisc, undone", x.undo(), 5);
        due("count(11)", x.count(11), 1);
        due("count(12)", x.count(12), 1);
        due("setLimit, undone", x.undo(), 4);
        due("count(10)", x.count(10), 100);
        due("read, undone", x.undo(), 3);
        due("count(9)", x.count(9), 0);
        due("setFlash, undone", x.undo(), 2);
        due("count(6)", x.count(6), 0);
        due("count(7)", x.count(7), 1);
        due("setSpeed, undone", x.undo(), 1);
        due("count(5)", x.count(5), 0);
        due("turn(4)", x.turn(4), (3 + 16) % 2);
        due("load, undone", x.undo(), 0);
        due("the text, which is not recorded", x.count(16), 6);
        x.clearText();
        due("the hash", x.digest(), before);
        Dues.type(x, "abc");
        x.setStart(1);
        x.type('.');
        x.undo();
        due("the text typed since then, which stays", x.count(16), 4);
    }

    private static void eightStates() {
        DUES.says("Changes and errors", "At most 8 recorded states are remembered: when one more is recorded, the oldest one is dropped;");
        for (int changes : new int[] {7, 8, 9, 16, 17, 100}) {
            FlashWheelReader x = new FlashWheelReader();
            for (int change = 1; change <= changes; change++) {
                x.setLimit(change);
                if (change >= changes - 2) due("the states after " + change, x.count(17), Math.min(change, 8));
            }
            int undone = Math.min(changes, 8);
            for (int left = undone - 1; left >= 0; left--) due("undo()", x.undo(), left);
            due("the limit after " + changes + " changes and all undo()", x.count(10), changes <= 8 ? 100 : changes - 8);
            due("undo() of no more", x.undo(), STATE);
            due("the limit", x.count(10), changes <= 8 ? 100 : changes - 8);
        }
    }

    private static void latest() {
        DUES.says("Changes and errors", "undo restores the latest one and removes it.");
        FlashWheelReader x = new FlashWheelReader();
        for (int start = 1; start <= 10; start++) x.setStart(start);
        for (int i = 0; i < 4; i++) due("undo() " + i, x.undo(), 7 - i);
        due("count(3)", x.count(3), 6);
        for (int start = 21; start <= 25; start++) x.setStart(start);
        due("count(17)", x.count(17), 8);
        int[] starts = {24, 23, 22, 21, 6, 5, 4, 3};
        for (int i = 0; i < 8; i++) {
            due("undo()", x.undo(), 7 - i);
            due("count(3) after undo " + i, x.count(3), starts[i]);
        }
        due("undo() of no more", x.undo(), STATE);
        x.setStart(30);
        x.undo();
        x.setStart(31);
        due("undo() is no change itself", x.undo(), 0);
        due("count(3)", x.count(3), 3);
    }

    private static void faultStays() {
        DUES.says("Changes and errors", "(What faultKind() returns stays.)");
        FlashWheelReader x = Dues.loaded("a");
        Dues.load(x, "a@99");
        due("faultKind()", x.faultKind(), 2);
        due("undo()", x.undo(), 0);
        due("faultKind() after undo()", x.faultKind(), 2);
        due("load()", Dues.load(x, "ab"), 2);
        due("faultKind()", x.faultKind(), 0);
        due("undo()", x.undo(), 0);
        due("faultKind() after undo() of load()", x.faultKind(), 0);
    }

    private static void codes() {
        DUES.says("Changes and errors", "The error codes are BAD (-1001: an argument is out of its range, or there is no such thing), "
            + "STATE (-1002: the call is not possible now, as the method says) and FULL (-1003: there is no room).");
        FlashWheelReader x = new FlashWheelReader();
        due("an argument out of its range", x.setStart(60), -1001);
        due("no such thing", x.dropReading(0), -1001);
        due("a call that is not possible now", x.undo(), -1002);
        due("another one", x.odd(), -1002);
        for (int i = 0; i < 8; i++) x.read(1, 0);
        due("no room", x.read(1, 0), -1003);
        due("the constants", FlashWheelReader.BAD == -1001 && FlashWheelReader.STATE == -1002 && FlashWheelReader.FULL == -1003 ? 1 : 0, 1);
    }

    private static void order() {
        DUES.says("Changes and errors", "If several of them apply to a call, the first one in this order is returned.");
        FlashWheelReader x = new FlashWheelReader();
        for (int i = 0; i < 80; i++) x.type('a');
        for (int tick = 1; tick <= 5; tick++) x.setSpeed(tick, 1);
        x.setFlash(1000, 1);
        for (int i = 0; i < 8; i++) x.read(1, 0);
        due("type(127) into a full buffer", x.type(127), BAD);
        due("type(97) into a full buffer", x.type(97), FULL);
        due("setSpeed(6, 1001) where there are 5", x.setSpeed(6, 1001), BAD);
        due("setSpeed(1001, 1) where there are 5", x.setSpeed(1001, 1), BAD);
        due("setSpeed(6, 1) where there are 5", x.setSpeed(6, 1), FULL);
        due("read(501, 0) where there are 8", x.read(501, 0), BAD);
        due("read(1, 31) where there are 8", x.read(1, 31), BAD);
        due("read(1, 0) where there are 8", x.read(1, 0), FULL);
        due("look(0) of the last flash where there are 8", x.look(0), BAD);
        x.setFlash(999, 1);
        due("look(0) where there are 8", x.look(0), FULL);
    }

    private static void nothingChanges() {
        DUES.says("Changes and errors", "A call that returns an error code changes nothing.");
        FlashWheelReader x = new FlashWheelReader();
        for (int i = 0; i < 80; i++) x.type('a');
        for (int i = 0; i < 8; i++) x.read(i + 1, 0);
        for (int tick = 1; tick <= 5; tick++) x.setSpeed(tick, tick);
        DUES.refused("type(31)", x, () -> x.type(31), BAD);
        DUES.refused("type(97)", x, () -> x.type(97), FULL);
        DUES.refused("setMark(12, 1)", x, () -> x.setMark(12, 1), BAD);
        DUES.refused("setStart(60)", x, () -> x.setStart(60), BAD);
        DUES.refused("setSpeed(6, 6)", x, () -> x.setSpeed(6, 6), FULL);
        DUES.refused("dropChange(6)", x, () -> x.dropChange(6), BAD);
        DUES.refused("setFlash(0, 501)", x, () -> x.setFlash(0, 501), BAD);
        DUES.refused("read(1, 0)", x, () -> x.read(1, 0), FULL);
        DUES.refused("look(0)", x, () -> x.look(0), FULL);
        DUES.refused("dropReading(8)", x, () -> x.dropReading(8), BAD);
        DUES.refused("setLimit(0)", x, () -> x.setLimit(0), BAD);
        DUES.refused("odd()", x, x::odd, STATE);
        DUES.refused("setDisc(31, 0)", x, () -> x.setDisc(31, 0), BAD);
        DUES.refused("turnDisc(30, 0)", x, () -> x.turnDisc(30, 0), BAD);
        due("undo() of the latest change before those", x.undo(), 7);
        due("count(5)", x.count(5), 4);
        FlashWheelReader y = new FlashWheelReader();
        DUES.refused("undo()", y, y::undo, STATE);
    }

    private static void none() {
        DUES.says("Changes and errors", "NONE (-1004) is no error code;");
        due("NONE", NONE, -1004);
        FlashWheelReader x = new FlashWheelReader();
        due("candidate(999)", x.candidate(999), -1004);
        DUES.says("Changes and errors", "it means that there is no such thing, and is returned only if no error code applies.");
        x.setDisc(1, 0);
        x.read(3, 1);
        x.setSpeed(0, 1);
        x.setFlash(1000, 1);
        due("flash(0, 2)", x.flash(0, 2), NONE);
        due("flash(1, 2)", x.flash(1, 2), BAD);
        due("stillPeriod(1, 2)", x.stillPeriod(1, 2), NONE);
        due("stillPeriod(0, 2)", x.stillPeriod(0, 2), BAD);
        due("candidate(0)", x.candidate(0), NONE);
        due("candidate(-1)", x.candidate(-1), BAD);
        due("nearest(0)", x.nearest(0), NONE);
        due("nearest(1001)", x.nearest(1001), BAD);
        due("bestPeriod(1, true)", x.bestPeriod(1, true), NONE);
        due("bestPeriod(0, true)", x.bestPeriod(0, true), BAD);
        due("opening(0, 0)", x.opening(0, 0), NONE);
        due("opening(0, 4)", x.opening(0, 4), BAD);
        due("smear(0, 0)", x.smear(0, 0), NONE);
        due("smear(0, 12)", x.smear(0, 12), BAD);
        x.read(3, 2);
        due("odd()", x.odd(), NONE);
        FlashWheelReader y = new FlashWheelReader();
        due("odd() where there are candidates", y.odd(), STATE);
    }

    private static void undo() {
        DUES.says(32, "Restores the latest remembered state, and removes it.");
        FlashWheelReader x = new FlashWheelReader();
        x.setStart(1);
        x.setStart(2);
        x.undo();
        due("count(3) after one undo()", x.count(3), 1);
        x.undo();
        due("count(3) after two", x.count(3), 0);
        for (int change = 0; change < CHANGES; change++) {
            FlashWheelReader y = busy();
            due("change " + change, make(y, change) >= 0 ? 1 : 0, 1);
            long after = y.digest();
            due("a second change", make(y, (change + 5) % CHANGES) >= 0 ? 1 : 0, 1);
            due("undo() of the second", y.undo(), 7);
            // The states are one fewer than they were after the first change, and so all that differs is that one count.
            due("what the first change made", y.digest() - after, -pow31(placesBehindStates(y)));
        }
    }

    private static long pow31(int power) {
        long product = 1;
        for (int i = 0; i < power; i++) product *= 31;
        return product;
    }

    /** How many values stand behind count(17) in the hash. */
    private static int placesBehindStates(FlashWheelReader x) {
        return 2 * x.count(0) + 4 * Math.min(20, x.count(8)) + 4 + 3 * x.count(9) + 1 + 5 + 3 + 5 * 5;
    }

    private static void undoCounts() {
        DUES.says(32, "Returns how many states are still remembered;");
        FlashWheelReader x = new FlashWheelReader();
        for (int limit = 1; limit <= 3; limit++) x.setLimit(limit);
        due("undo() of three", x.undo(), 2);
        due("count(17)", x.count(17), 2);
        due("undo() of two", x.undo(), 1);
        due("undo() of one", x.undo(), 0);
        for (int limit = 1; limit <= 9; limit++) x.setLimit(limit);
        due("undo() of nine", x.undo(), 7);
        DUES.says(32, "STATE if there is none.");
        FlashWheelReader y = new FlashWheelReader();
        DUES.refused("undo() of a new reader", y, y::undo, STATE);
        y.setStart(1);
        y.undo();
        DUES.refused("undo() where all is undone", y, y::undo, STATE);
        for (int i = 0; i < 10; i++) y.setStart(i);
        for (int i = 0; i < 8; i++) y.undo();
        DUES.refused("undo() of the ninth", y, y::undo, STATE);
        due("count(3)", y.count(3), 1);
        Dues.load(y, "x");
        due("undo() after load() with a fault", y.undo(), STATE);
    }

    private static void hashParts() {
        DUES.says(34, "Computes a hash.");
        FlashWheelReader x = new FlashWheelReader();
        due("digest()", x.digest(), hashOf(x));
        due("digest() again", x.digest(), hashOf(x));
        due("the states, as it is no change", x.count(17), 0);
        due("digest() of another new reader", new FlashWheelReader().digest(), x.digest());
        DUES.says(34, "h is 12956 at first;");
        // With no marks, speeds and readings most values are 0; the hash is told here by numbers alone.
        FlashWheelReader bare = Dues.loaded(".");
        bare.clearText();
        bare.setLimit(1);
        bare.setFlash(1000, 500);
        bare.setDisc(1, 0);
        long h = 12956;
        int[] values = {1, 0, 1, 0, 0, 0, 1000, 500, 1, 0, 1, 1, 0, 0, 0, 0, 0, 4, 0, 0, 1000, 0, NONE, 0, 0, 0, 0, 1, 3, -1, 0, 1, NONE, NONE, 0, 1, 3};
        for (int value : values) h = 31 * h + value;
        for (int i = 0; i < 25; i++) h = 31 * h + NONE;
        due("digest()", bare.digest(), h);
        DUES.says(34, "then h becomes 31 * h + v (long arithmetic that overflows) for each of these values v, in this order: count(0) to count(17);");
        FlashWheelReader y = busy();
        due("digest()", y.digest(), hashOf(y));
        y.setSpeed(9, 9);
        y.setFlash(2, 7);
        y.setLimit(42);
        y.type('x');
        due("digest() with other counts", y.digest(), hashOf(y));
        DUES.says(34, "for each place markAt(0, place) and markAt(1000, place);");
        for (String text : new String[] {"b", "abc.@1*3", "c".repeat(59) + "a*1"}) {
            FlashWheelReader z = Dues.loaded(text);
            due("digest() of " + text, z.digest(), hashOf(z));
        }
        DUES.says(34, "Returns h.");
        due("digest()", y.digest(), hashOf(y));
    }

    private static void hashOfFlashes() {
        DUES.says(34, "for each flash up to the 20th one (number 19) flash() for 0 to 3;");
        FlashWheelReader x = Dues.loaded("abc...............................@4*3");
        for (int flashes = 1; flashes <= 22; flashes++) {
            due("setFlash()", x.setFlash(1001 - flashes, 1), flashes);
            due("digest() of " + flashes + " flashes", x.digest(), hashOf(x));
        }
        DUES.says(34, "seems() for 0 to 3;");
        Dues.load(x, "a....*1");
        x.setFlash(0, 1);
        x.setSpeed(500, -1);
        x.setSpeed(900, 0);
        due("digest() where it goes, comes and stands", x.digest(), hashOf(x));
        x.setFlash(0, 2);
        due("digest() of each other tick", x.digest(), hashOf(x));
    }

    private static void hashOfReadings() {
        DUES.says(34, "for each reading reading() for 0 to 2;");
        FlashWheelReader x = Dues.loaded("a...........");
        for (int i = 0; i < 8; i++) {
            x.read(i % 3 + 1, 5 * (i % 3 + 1));
            due("digest() of " + (i + 1) + " readings", x.digest(), hashOf(x));
        }
        DUES.says(34, "candidates(), candidate() for 0 to 4, nearest(0), bestPeriod(20, false), bestPeriod(20, true);");
        // From no candidates to more than five
        for (int limit : new int[] {4, 5, 7, 17, 19, 29, 31, 41, 1000}) {
            x.setLimit(limit);
            due("digest() with the limit " + limit, x.digest(), hashOf(x));
        }
    }

    private static void hashOfOpenings() {
        DUES.says(34, "for the openings 0 to 4 opening() for 0 to 3, and smear(opening, 0).");
        FlashWheelReader x = Dues.loaded("abc..*7");
        x.setDisc(30, 5);
        for (int speed : new int[] {1, -1, 7, 10, 15, 0}) {
            x.turnDisc(2, speed);
            due("digest() with the disc's speed " + speed, x.digest(), hashOf(x));
        }
        x.setDisc(30, 1 << 28);
        due("digest() of a disc that stands and is open", x.digest(), hashOf(x));
        x.setDisc(30, 0);
        due("digest() of a closed disc", x.digest(), hashOf(x));
    }

    private static long hashOf(FlashWheelReader x) {
        long h = 12956;
        for (int what = 0; what < 18; what++) h = h * 31 + x.count(what);
        for (int place = 0; place < x.count(0); place++) h = (h * 31 + x.markAt(0, place)) * 31 + x.markAt(1000, place);
        for (int flash = 0; flash < Math.min(20, x.count(8)); flash++) {
            for (int what = 0; what < 4; what++) h = h * 31 + x.flash(flash, what);
        }
        for (int what = 0; what < 4; what++) h = h * 31 + x.seems(what);
        for (int reading = 0; reading < x.count(9); reading++) {
            for (int what = 0; what < 3; what++) h = h * 31 + x.reading(reading, what);
        }
        h = h * 31 + x.candidates();
        for (int k = 0; k < 5; k++) h = h * 31 + x.candidate(k);
        h = ((h * 31 + x.nearest(0)) * 31 + x.bestPeriod(20, false)) * 31 + x.bestPeriod(20, true);
        for (int opening = 0; opening < 5; opening++) {
            for (int what = 0; what < 4; what++) h = h * 31 + x.opening(opening, what);
            h = h * 31 + x.smear(opening, 0);
        }
        return h;
    }

    private static void calls() {
        DUES.says("What it is", "An object is used for at most 512 calls after it has been made;");
        FlashWheelReader x = new FlashWheelReader();
        for (int call = 1; call <= 509; call++) due("call " + call, x.setLimit(call), call == 1 ? 100 : call - 1);
        due("call 510", x.undo(), 7);
        due("call 511", x.count(10), 508);
        due("call 512", x.candidates(), 2 * 508 + 1);
    }

    private static void due(String call, long got, long want) {
        DUES.due(call, got, want);
    }
}
