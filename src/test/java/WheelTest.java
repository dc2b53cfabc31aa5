/** Promises 1, 6 to 11 and 33: the wheel, its speeds and the counts. */
public final class WheelTest {
    private static final int BAD = FlashWheelReader.BAD, FULL = FlashWheelReader.FULL;
    private static final Dues DUES = new Dues("WheelTest");

    public static void main(String[] args) {
        newObject();
        counts();
        marks();
        measure();
        start();
        speeds();
        fullSpeeds();
        dropping();
        turning();
        places();
        DUES.end();
    }

    private static void newObject() {
        FlashWheelReader x = new FlashWheelReader();
        int[] counts = {12, 4, 3, 0, 0, 0, 0, 1, 1001, 0, 100, 1, 1, 0, 0, 1, 0, 0};
        for (int what = 0; what < counts.length; what++) due("count(" + what + ")", x.count(what), counts[what]);
        for (int place = 0; place < 12; place++) due("markAt(0, " + place + ")", x.markAt(0, place), place % 3 == 0 ? 1 : 0);
        due("faultKind()", x.faultKind(), 0);
        due("undo()", x.undo(), FlashWheelReader.STATE);
        due("isSeen(1000)", x.isSeen(1000), 1);
    }

    private static void counts() {
        FlashWheelReader x = new FlashWheelReader();
        Dues.load(x, "ab..ab..@31*-12");
        x.setSpeed(10, 3);
        x.setSpeed(11, 4);
        x.setFlash(7, 9);
        x.read(5, -2);
        x.setLimit(77);
        x.setDisc(5, 11);
        x.turnDisc(29, -7);
        int[] counts = {8, 4, 4, 31, -12, 2, 7, 9, 111, 1, 77, 5, 11, 29, -7};
        for (int what = 0; what < counts.length; what++) due("count(" + what + ") after changes", x.count(what), counts[what]);
        due("count(16) after changes", x.count(16), 15);
        due("count(17) after changes", x.count(17), 8);
        due("count(-1)", x.count(-1), BAD);
        due("count(18)", x.count(18), BAD);
        due("count(MIN)", x.count(Integer.MIN_VALUE), BAD);
        due("count(MAX)", x.count(Integer.MAX_VALUE), BAD);
    }

    private static void marks() {
        FlashWheelReader x = new FlashWheelReader();
        due("setMark(0, 3)", x.setMark(0, 3), 1);
        due("setMark(0, 2)", x.setMark(0, 2), 3);
        due("setMark(11, 1)", x.setMark(11, 1), 0);
        due("setMark(11, 0)", x.setMark(11, 0), 1);
        due("setMark(3, 0)", x.setMark(3, 0), 1);
        due("count(1)", x.count(1), 3);
        due("setMark(-1, 0)", x.setMark(-1, 0), BAD);
        due("setMark(12, 0)", x.setMark(12, 0), BAD);
        due("setMark(0, -1)", x.setMark(0, -1), BAD);
        due("setMark(0, 4)", x.setMark(0, 4), BAD);
        due("setMark(MIN, MAX)", x.setMark(Integer.MIN_VALUE, Integer.MAX_VALUE), BAD);
        due("count(17) after five changes", x.count(17), 5);
        due("markAt(0, 0)", x.markAt(0, 0), 2);
        due("undo()", x.undo(), 4);
        due("markAt(0, 3)", x.markAt(0, 3), 1);
        Dues.load(x, "a.");
        due("setMark(2, 1) of two cells", x.setMark(2, 1), BAD);
        due("setMark(1, 1) of two cells", x.setMark(1, 1), 0);
    }

    private static void measure() {
        String[] texts = {".", "a", "..........", "ababab", "abaab", "aab", "aabaab", "abcaba",
            "abaaba.abaaba.", "a.a.a.a.a.aa", "aabb", "abababababab"};
        int[] measures = {1, 1, 1, 2, 5, 3, 3, 6, 7, 12, 4, 2};
        FlashWheelReader x = new FlashWheelReader();
        for (int i = 0; i < texts.length; i++) {
            Dues.load(x, texts[i]);
            due("measure of " + texts[i], x.count(2), measures[i]);
        }
        // It begins again after 5 cells, but 5 does not divide 12.
        Dues.load(x, "aab.caab.caa");
        due("measure where the end is cut off", x.count(2), 12);
    }

    private static void start() {
        FlashWheelReader x = new FlashWheelReader();
        due("setStart(59)", x.setStart(59), 0);
        due("count(3)", x.count(3), 59);
        due("turn(0)", x.turn(0), 11);
        due("setStart(0)", x.setStart(0), 59);
        due("setStart(-1)", x.setStart(-1), BAD);
        due("setStart(60)", x.setStart(60), BAD);
        due("count(17)", x.count(17), 2);
        due("undo()", x.undo(), 1);
        due("count(3) after undo", x.count(3), 59);
    }

    private static void speeds() {
        FlashWheelReader x = new FlashWheelReader();
        due("setSpeed(0, 1000)", x.setSpeed(0, 1000), 0);
        due("setSpeed(0, -1000)", x.setSpeed(0, -1000), 0);
        due("count(4)", x.count(4), -1000);
        due("setSpeed(1000, 5)", x.setSpeed(1000, 5), 1);
        due("setSpeed(1, 5)", x.setSpeed(1, 5), 2);
        due("setSpeed(1, 7)", x.setSpeed(1, 7), 2);
        due("count(5)", x.count(5), 2);
        due("setSpeed(-1, 0)", x.setSpeed(-1, 0), BAD);
        due("setSpeed(1001, 0)", x.setSpeed(1001, 0), BAD);
        due("setSpeed(1, 1001)", x.setSpeed(1, 1001), BAD);
        due("setSpeed(1, -1001)", x.setSpeed(1, -1001), BAD);
        due("setSpeed(MAX, MIN)", x.setSpeed(Integer.MAX_VALUE, Integer.MIN_VALUE), BAD);
        due("count(17)", x.count(17), 5);
        due("undo()", x.undo(), 4);
        due("turn(2) after undo", x.turn(2), Math.floorMod(-1000 + 5, 12));
    }

    private static void fullSpeeds() {
        FlashWheelReader x = new FlashWheelReader();
        for (int tick = 50; tick >= 10; tick -= 10) due("setSpeed(" + tick + ", 1)", x.setSpeed(tick, 1), 6 - tick / 10);
        due("a sixth change", x.setSpeed(5, 1), FULL);
        due("a sixth change behind", x.setSpeed(1000, 1), FULL);
        due("a sixth change that is bad", x.setSpeed(1000, 1001), BAD);
        due("the same tick where it is full", x.setSpeed(30, -2), 5);
        due("tick 0 where it is full", x.setSpeed(0, 3), 5);
        due("count(4)", x.count(4), 3);
        // 10 ticks with 3, 20 with 1, 10 with -2, 60 with 1
        due("turn(100)", x.turn(100), (30 + 20 - 20 + 60) % 12);
        due("dropChange(50)", x.dropChange(50), 4);
        due("setSpeed(5, 1)", x.setSpeed(5, 1), 5);
    }

    private static void dropping() {
        FlashWheelReader x = new FlashWheelReader();
        due("dropChange(1) of none", x.dropChange(1), BAD);
        due("dropChange(0)", x.dropChange(0), BAD);
        x.setSpeed(3, 1);
        x.setSpeed(1, 2);
        x.setSpeed(2, 4);
        due("dropChange(4)", x.dropChange(4), BAD);
        due("dropChange(0) with changes", x.dropChange(0), BAD);
        due("dropChange(-1)", x.dropChange(-1), BAD);
        due("dropChange(1001)", x.dropChange(1001), BAD);
        due("dropChange(MAX)", x.dropChange(Integer.MAX_VALUE), BAD);
        due("dropChange(2)", x.dropChange(2), 2);
        due("turn(6)", x.turn(6), 2 * 2 + 3);
        due("dropChange(2) again", x.dropChange(2), BAD);
        due("dropChange(1)", x.dropChange(1), 1);
        due("turn(6)", x.turn(6), 3);
        due("dropChange(3)", x.dropChange(3), 0);
        due("turn(6)", x.turn(6), 0);
        due("count(17)", x.count(17), 6);
        due("undo()", x.undo(), 5);
        due("turn(6) after undo", x.turn(6), 3);
    }

    private static void turning() {
        FlashWheelReader x = new FlashWheelReader();
        x.setStart(5);
        x.setSpeed(0, -3);
        x.setSpeed(4, 2);
        int[] turns = {5, 2, 11, 8, 5, 7, 9, 11, 1};
        for (int tick = 0; tick < turns.length; tick++) due("turn(" + tick + ")", x.turn(tick), turns[tick]);
        x.setSpeed(0, -1000);
        x.setSpeed(4, -1000);
        due("turn(1000)", x.turn(1000), Math.floorMod(5 - 1000000, 12));
        due("turn(-1)", x.turn(-1), BAD);
        due("turn(1001)", x.turn(1001), BAD);
    }

    private static void places() {
        FlashWheelReader x = new FlashWheelReader();
        Dues.load(x, "abc.@2*-1");
        int[][] marks = {{3, 0, 1, 2}, {0, 1, 2, 3}, {1, 2, 3, 0}, {2, 3, 0, 1}, {3, 0, 1, 2}};
        for (int tick = 0; tick < marks.length; tick++) {
            for (int place = 0; place < 4; place++) {
                due("markAt(" + tick + ", " + place + ")", x.markAt(tick, place), marks[tick][place]);
            }
        }
        due("markAt(1000, 2)", x.markAt(1000, 2), 1);
        due("markAt(-1, 0)", x.markAt(-1, 0), BAD);
        due("markAt(1001, 0)", x.markAt(1001, 0), BAD);
        due("markAt(0, -1)", x.markAt(0, -1), BAD);
        due("markAt(0, 4)", x.markAt(0, 4), BAD);
    }

    private static void due(String call, long got, long want) {
        DUES.due(call, got, want);
    }
}
