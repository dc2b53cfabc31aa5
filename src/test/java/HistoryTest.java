/** Promises 32 and 34: what is remembered, and the hash. */
public final class HistoryTest {
    private static final int STATE = FlashWheelReader.STATE;
    private static final Dues DUES = new Dues("HistoryTest");

    public static void main(String[] args) {
        eightStates();
        everyChange();
        noChange();
        sameValues();
        afterUndo();
        hash();
        DUES.end();
    }

    private static void eightStates() {
        FlashWheelReader x = new FlashWheelReader();
        due("undo() of nothing", x.undo(), STATE);
        for (int start = 1; start <= 11; start++) {
            x.setStart(start);
            due("count(17)", x.count(17), Math.min(start, 8));
        }
        for (int left = 7; left >= 0; left--) {
            due("undo()", x.undo(), left);
            due("count(17)", x.count(17), left);
            due("count(3)", x.count(3), 3 + left);
        }
        due("undo() of no more", x.undo(), STATE);
        due("count(3)", x.count(3), 3);
    }

    /** Each change is made and undone, and the hash must be as before. */
    private static void everyChange() {
        FlashWheelReader x = new FlashWheelReader();
        Dues.load(x, "abc.a.c@5*7");
        x.setSpeed(4, 3);
        x.setSpeed(8, 9);
        x.setFlash(2, 6);
        x.read(5, 1);
        x.look(0);
        x.setDisc(6, 25);
        x.turnDisc(3, 5);
        for (int change = 0; change < 12; change++) {
            int remembered = x.count(17);
            long before = x.digest();
            due("change " + change, make(x, change) >= 0 ? 1 : 0, 1);
            due("the hash after change " + change, x.digest() != before ? 1 : 0, 1);
            due("undo() of change " + change, x.undo(), 7);
            due("states before change " + change, remembered == 7 || change == 0 ? 1 : 0, 1);
            if (change > 0) due("the hash after undo of change " + change, x.digest(), before);
        }
    }

    private static int make(FlashWheelReader x, int change) {
        switch (change) {
            case 0: return x.load();
            case 1: return x.setMark(3, 2);
            case 2: return x.setStart(6);
            case 3: return x.setSpeed(6, 1);
            case 4: return x.dropChange(4);
            case 5: return x.setFlash(1, 5);
            case 6: return x.read(3, 2);
            case 7: return x.look(1);
            case 8: return x.dropReading(0);
            case 9: return x.setLimit(50);
            case 10: return x.setDisc(5, 1);
            default: return x.turnDisc(2, 2);
        }
    }

    private static void noChange() {
        FlashWheelReader x = new FlashWheelReader();
        x.type('a');
        x.clearText();
        x.load();
        x.faultKind();
        x.markAt(0, 0);
        x.turn(0);
        x.flash(0, 0);
        x.step(0, 1);
        x.seems(0);
        x.stillPeriod(1, 2);
        x.candidates();
        x.candidate(0);
        x.nearest(0);
        x.odd();
        x.bestPeriod(5, true);
        x.isSeen(0);
        x.opening(0, 0);
        x.smear(0, 0);
        x.digest();
        x.setMark(12, 0);
        x.setStart(60);
        x.setSpeed(0, 1001);
        x.dropChange(1);
        x.setFlash(0, 0);
        x.read(0, 0);
        x.look(1000);
        x.dropReading(0);
        x.setLimit(0);
        x.setDisc(0, 0);
        x.turnDisc(30, 0);
        due("count(17) after calls that are no changes", x.count(17), 0);
        due("undo()", x.undo(), STATE);
        for (int i = 0; i < 8; i++) x.read(1, 0);
        for (int tick = 1; tick <= 5; tick++) x.setSpeed(tick, tick);
        long before = x.digest();
        x.read(1, 0);
        x.look(0);
        x.setSpeed(6, 6);
        due("the hash after calls that found no room", x.digest(), before);
        x.undo();
        due("the latest of the states after those", x.count(5), 4);
    }

    private static void sameValues() {
        FlashWheelReader x = new FlashWheelReader();
        x.setMark(0, 1);
        x.setStart(0);
        x.setSpeed(0, 0);
        x.setFlash(0, 1);
        x.setLimit(100);
        x.setDisc(1, 1);
        x.turnDisc(0, 0);
        due("changes to the same values are changes", x.count(17), 7);
    }

    private static void afterUndo() {
        FlashWheelReader x = new FlashWheelReader();
        for (int start = 1; start <= 10; start++) x.setStart(start);
        for (int i = 0; i < 4; i++) x.undo();
        due("count(3)", x.count(3), 6);
        for (int start = 21; start <= 25; start++) x.setStart(start);
        due("count(17)", x.count(17), 8);
        int[] starts = {24, 23, 22, 21, 6, 5, 4, 3};
        for (int i = 0; i < 8; i++) {
            due("undo()", x.undo(), 7 - i);
            due("count(3) after undo " + i, x.count(3), starts[i]);
        }
        due("undo() of no more", x.undo(), STATE);
    }

    private static void hash() {
        FlashWheelReader x = new FlashWheelReader();
        due("digest()", x.digest(), hashOf(x));
        Dues.load(x, "ab.ab.@4*-3");
        due("digest()", x.digest(), hashOf(x));
        x.setFlash(3, 450);
        x.read(3, 1);
        x.read(2, 2);
        x.setDisc(9, 37);
        x.turnDisc(4, 2);
        due("digest()", x.digest(), hashOf(x));
        x.setFlash(1000 - 19, 1);
        due("digest() of 20 flashes", x.digest(), hashOf(x));
        x.setFlash(1000 - 20, 1);
        due("digest() of 21 flashes", x.digest(), hashOf(x));
        due("digest() again", x.digest(), hashOf(x));
    }

    private static long hashOf(FlashWheelReader x) {
        long h = 12956;
        for (int what = 0; what < 18; what++) h = h * 31 + x.count(what);
        for (int place = 0; place < x.count(0); place++) h = (h * 31 + x.markAt(0, place)) * 31 + x.markAt(1000, place);
        for (int flash = 0; flash < Math.min(20, x.count(8)); flash++) {
            for (int what = 0; what < 4; what++) h = h * 31 + x.flash(flash, what);
        }
        for (int what = 0; what < 4; what++) h = h * 31 + x.seems(what);
        for (int reading = 0; reading < x.count(9); reading++) {
            for (int what = 0; what < 3; what++) h = h * 31 + x.reading(reading, what);
        }
        h = h * 31 + x.candidates();
        for (int k = 0; k < 5; k++) h = h * 31 + x.candidate(k);
        h = ((h * 31 + x.nearest(0)) * 31 + x.bestPeriod(20, false)) * 31 + x.bestPeriod(20, true);
        for (int opening = 0; opening < 5; opening++) {
            for (int what = 0; what < 4; what++) h = h * 31 + x.opening(opening, what);
            h = h * 31 + x.smear(opening, 0);
        }
        return h;
    }

    private static void due(String call, long got, long want) {
        DUES.due(call, got, want);
    }
}
