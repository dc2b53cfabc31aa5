/** Promises 17 to 26: the readings and the speeds that fit them. */
public final class ReadingTest {
    private static final int BAD = FlashWheelReader.BAD, STATE = FlashWheelReader.STATE;
    private static final int FULL = FlashWheelReader.FULL, NONE = FlashWheelReader.NONE;
    private static final Dues DUES = new Dues("ReadingTest");

    public static void main(String[] args) {
        adding();
        looking();
        dropping();
        limits();
        fitting();
        ends();
        nearness();
        oddOnes();
        bestPeriods();
        DUES.end();
    }

    private static void adding() {
        FlashWheelReader x = new FlashWheelReader();
        due("read(0, 0)", x.read(0, 0), BAD);
        due("read(501, 0)", x.read(501, 0), BAD);
        due("read(1, -31)", x.read(1, -31), BAD);
        due("read(1, 31)", x.read(1, 31), BAD);
        due("read(MIN, MAX)", x.read(Integer.MIN_VALUE, Integer.MAX_VALUE), BAD);
        due("reading(0, 0) of none", x.reading(0, 0), BAD);
        due("read(1, -30)", x.read(1, -30), 0);
        due("read(500, 30)", x.read(500, 30), 1);
        for (int i = 2; i < 8; i++) due("read(" + i + ", 0)", x.read(i, 0), i);
        due("a ninth one", x.read(1, 0), FULL);
        due("a ninth one that is bad", x.read(0, 0), BAD);
        due("count(9)", x.count(9), 8);
        due("count(17)", x.count(17), 8);
        due("reading(0, 0)", x.reading(0, 0), 1);
        due("reading(0, 1)", x.reading(0, 1), -30);
        due("reading(1, 0)", x.reading(1, 0), 500);
        due("reading(1, 1)", x.reading(1, 1), 30);
        due("reading(7, 0)", x.reading(7, 0), 7);
        due("reading(8, 0)", x.reading(8, 0), BAD);
        due("reading(-1, 0)", x.reading(-1, 0), BAD);
        due("reading(0, -1)", x.reading(0, -1), BAD);
        due("reading(0, 3)", x.reading(0, 3), BAD);
        due("undo()", x.undo(), 7);
        due("count(9) after undo", x.count(9), 7);
    }

    private static void looking() {
        FlashWheelReader x = new FlashWheelReader();
        Dues.load(x, "a......*2");
        x.setFlash(0, 500);
        due("look(-1)", x.look(-1), BAD);
        due("look(2), the last one", x.look(2), BAD);
        due("look(3)", x.look(3), BAD);
        due("look(0)", x.look(0), 0);
        due("reading(0, 0)", x.reading(0, 0), 500);
        due("reading(0, 1)", x.reading(0, 1), -1);
        x.setSpeed(501, 1);
        due("look(1)", x.look(1), 1);
        due("reading(1, 1)", x.reading(1, 1), Math.floorMod(2 + 499, 7) - 7);
        due("count(17)", x.count(17), 5);
        for (int i = 2; i < 8; i++) due("look(0)", x.look(0), i);
        due("look(0) where it is full", x.look(0), FULL);
        due("look(2) where it is full", x.look(2), BAD);
        due("undo()", x.undo(), 7);
        due("count(9) after undo", x.count(9), 7);
        x.setFlash(1000, 1);
        due("look(0) of the only one", x.look(0), BAD);
    }

    private static void dropping() {
        FlashWheelReader x = new FlashWheelReader();
        due("dropReading(0) of none", x.dropReading(0), BAD);
        for (int i = 0; i < 4; i++) x.read(10 + i, i);
        due("dropReading(4)", x.dropReading(4), BAD);
        due("dropReading(-1)", x.dropReading(-1), BAD);
        due("dropReading(1)", x.dropReading(1), 3);
        int[] left = {10, 12, 13};
        for (int i = 0; i < 3; i++) {
            due("reading(" + i + ", 0)", x.reading(i, 0), left[i]);
            due("reading(" + i + ", 1)", x.reading(i, 1), left[i] - 10);
        }
        due("dropReading(2)", x.dropReading(2), 2);
        due("dropReading(0)", x.dropReading(0), 1);
        due("reading(0, 0)", x.reading(0, 0), 12);
        due("dropReading(0)", x.dropReading(0), 0);
        due("count(17)", x.count(17), 8);
        due("undo()", x.undo(), 7);
        x.undo();
        due("reading(1, 0) after undo", x.reading(1, 0), 12);
    }

    private static void limits() {
        FlashWheelReader x = new FlashWheelReader();
        due("setLimit(0)", x.setLimit(0), BAD);
        due("setLimit(1001)", x.setLimit(1001), BAD);
        due("setLimit(-1)", x.setLimit(-1), BAD);
        due("setLimit(1)", x.setLimit(1), 100);
        due("candidates()", x.candidates(), 3);
        due("setLimit(1000)", x.setLimit(1000), 1);
        due("candidates()", x.candidates(), 2001);
        due("count(10)", x.count(10), 1000);
        due("count(17)", x.count(17), 2);
        due("undo()", x.undo(), 1);
        due("count(10) after undo", x.count(10), 1);
    }

    /** The measure is 12; the readings say that the speed is 5 modulo 12, from two sides. */
    private static FlashWheelReader twelve() {
        FlashWheelReader x = new FlashWheelReader();
        Dues.load(x, "a...........");
        x.read(4, 8);
        x.read(3, 3);
        x.setLimit(30);
        return x;
    }

    private static void fitting() {
        FlashWheelReader x = twelve();
        int[] speeds = {-19, -7, 5, 17, 29};
        due("candidates()", x.candidates(), speeds.length);
        for (int k = 0; k < speeds.length; k++) due("candidate(" + k + ")", x.candidate(k), speeds[k]);
        due("candidate(5)", x.candidate(5), NONE);
        due("candidate(MAX)", x.candidate(Integer.MAX_VALUE), NONE);
        due("candidate(-1)", x.candidate(-1), BAD);
        // Without 4 * v = 8 the speeds that are 1 modulo 4 are left, without 3 * v = 3 those that are 2 modulo 3.
        due("reading(0, 2)", x.reading(0, 2), 15);
        due("reading(1, 2)", x.reading(1, 2), 20);
        x.read(1, -7);
        due("candidates() with a step below 0", x.candidates(), 5);
        x.read(1, 29);
        due("candidates() with a great step", x.candidates(), 5);
        x.setMark(6, 1);
        due("count(2)", x.count(2), 6);
        due("candidates() with the measure 6", x.candidates(), 10);
        x.read(1, 0);
        due("candidates() of none", x.candidates(), 0);
        due("candidate(0) of none", x.candidate(0), NONE);
    }

    private static void ends() {
        FlashWheelReader x = new FlashWheelReader();
        x.setLimit(7);
        due("candidates() up to the limit", x.candidates(), 15);
        due("candidate(0), minus the limit", x.candidate(0), -7);
        due("candidate(14), the limit", x.candidate(14), 7);
        due("candidate(15)", x.candidate(15), NONE);
        due("nearest(1000)", x.nearest(1000), 7);
        due("nearest(-1000)", x.nearest(-1000), -7);
        due("bestPeriod(1, true)", x.bestPeriod(1, true), 5);
        x.read(1, 0);
        // -6, -3, 0, 3 and 6, all with the remainder 0
        due("bestPeriod(1, true) of one remainder", x.bestPeriod(1, true), 5);
    }

    private static void nearness() {
        FlashWheelReader x = twelve();
        int[] wanted = {-1000, -19, -14, -13, -12, -8, -7, -1, 0, 5, 10, 11, 12, 23, 24, 30, 1000};
        int[] dues = {-19, -19, -19, -19, -7, -7, -7, -7, 5, 5, 5, 5, 17, 17, 29, 29, 29};
        for (int i = 0; i < wanted.length; i++) due("nearest(" + wanted[i] + ")", x.nearest(wanted[i]), dues[i]);
        due("nearest(1001)", x.nearest(1001), BAD);
        due("nearest(-1001)", x.nearest(-1001), BAD);
        due("nearest(MIN)", x.nearest(Integer.MIN_VALUE), BAD);
        x.read(1, 0);
        due("nearest(0) of none", x.nearest(0), NONE);
        due("nearest(1001) of none", x.nearest(1001), BAD);
    }

    private static void oddOnes() {
        FlashWheelReader x = new FlashWheelReader();
        due("odd() without readings", x.odd(), STATE);
        x = twelve();
        due("odd() with candidates", x.odd(), STATE);
        x.read(1, 0);
        due("odd() of one that does not go", x.odd(), 2);
        x.read(1, 5);
        due("odd() of the same", x.odd(), 2);
        x.read(2, 1);
        due("odd() of two that do not go", x.odd(), NONE);
        x.dropReading(4);
        x.dropReading(2);
        due("odd() with candidates again", x.odd(), STATE);
        x.setLimit(5);
        due("candidates()", x.candidates(), 1);
        due("odd() with one candidate", x.odd(), STATE);
        x.read(1, 0);
        due("odd() without which one candidate is left", x.odd(), 3);
        x = new FlashWheelReader();
        x.read(1, 0);
        x.read(1, 1);
        due("odd() of two, the smaller one", x.odd(), 0);
        x.dropReading(0);
        x.read(3, 1);
        due("odd() of the second one", x.odd(), 1);
    }

    private static void bestPeriods() {
        FlashWheelReader x = twelve();
        due("bestPeriod(0, false)", x.bestPeriod(0, false), BAD);
        due("bestPeriod(501, true)", x.bestPeriod(501, true), BAD);
        due("bestPeriod(-1, true)", x.bestPeriod(-1, true), BAD);
        due("all are alike", x.bestPeriod(500, true), 5);
        due("the first of all that are alike", x.bestPeriod(500, false), 1);
        x.dropReading(1);
        // The speeds are 2 modulo 3, from -28 to 29; a period that is odd tells four classes of five apart.
        due("candidates()", x.candidates(), 20);
        due("bestPeriod(1, false)", x.bestPeriod(1, false), 1);
        due("bestPeriod(1, true)", x.bestPeriod(1, true), 5);
        due("bestPeriod(500, true)", x.bestPeriod(500, true), 5);
        x.dropReading(0);
        x.setLimit(2);
        due("bestPeriod(500, true) of 5 speeds", x.bestPeriod(500, true), 1);
        due("bestPeriod(500, false) of 5 speeds", x.bestPeriod(500, false), 1);
        x.setLimit(1);
        x.read(2, 2);
        due("bestPeriod(500, true) of 1 speed", x.bestPeriod(500, true), 1);
        x.read(2, 1);
        due("bestPeriod(500, true) of none", x.bestPeriod(500, true), NONE);
        due("bestPeriod(500, false) of none", x.bestPeriod(500, false), NONE);
        due("bestPeriod(0, false) of none", x.bestPeriod(0, false), BAD);
        measureAndPeriod();
    }

    /** Period 1 always tells most, as it keeps all remainders apart; so the period is 1 wherever there are candidates. */
    private static void measureAndPeriod() {
        FlashWheelReader x = new FlashWheelReader();
        due("bestPeriod(20, false)", x.bestPeriod(20, false), 1);
        // 201 speeds in three classes
        due("bestPeriod(20, true)", x.bestPeriod(20, true), 67);
        x.setLimit(1);
        due("bestPeriod(20, true) of three", x.bestPeriod(20, true), 1);
        x.setMark(0, 0);
        x.setMark(0, 2);
        x.setLimit(100);
        // 201 = 16 * 12 + 9
        due("bestPeriod(20, true) of twelve classes", x.bestPeriod(20, true), 17);
    }

    private static void due(String call, long got, long want) {
        DUES.due(call, got, want);
    }
}
