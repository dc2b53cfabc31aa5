/** The section "Readings", and promises 17 to 26: the readings and the speeds that fit them. */
public final class ReadingTest {
    private static final int BAD = FlashWheelReader.BAD, STATE = FlashWheelReader.STATE;
    private static final int FULL = FlashWheelReader.FULL, NONE = FlashWheelReader.NONE;
    private static final int MIN = Integer.MIN_VALUE, MAX = Integer.MAX_VALUE;
    private static final Dues DUES = new Dues("ReadingTest");

    public static void main(String[] args) {
        ask();
        DUES.end();
    }

    static void ask() {
        eightReadings();
        ticksAndStep();
        fitting();
        limit();
        candidatesInOrder();
        classes();
        restOfPeriod();
        read();
        readRefused();
        look();
        lookRefused();
        dropReading();
        reading();
        readingRefused();
        setLimit();
        candidates();
        candidate();
        nearest();
        nearestRefused();
        odd();
        oddNoneOrState();
        bestPeriod();
        bestPeriodRefused();
    }

    /** The measure is 12; the readings say that the speed is 5 modulo 12, from two sides: it is -19, -7, 5, 17 or 29. */
    private static FlashWheelReader twelve() {
        FlashWheelReader x = Dues.loaded("a...........");
        x.read(4, 8);
        x.read(3, 3);
        x.setLimit(30);
        return x;
    }

    private static void eightReadings() {
        DUES.says("Readings", "There are at most 8 readings, numbered from 0 in the order in which they were added;");
        FlashWheelReader x = new FlashWheelReader();
        due("reading(0, 0) of none", x.reading(0, 0), BAD);
        for (int i = 0; i < 8; i++) due("read(" + (90 - i) + ", " + i + ")", x.read(90 - i, i), i);
        due("a ninth one", x.read(1, 0), FULL);
        for (int i = 0; i < 8; i++) {
            due("reading(" + i + ", 0)", x.reading(i, 0), 90 - i);
            due("reading(" + i + ", 1)", x.reading(i, 1), i);
        }
        due("reading(8, 0)", x.reading(8, 0), BAD);
        due("count(9)", x.count(9), 8);
    }

    private static void ticksAndStep() {
        DUES.says("Readings", "a reading has a number of ticks, 1 to 500, and a step from -30 to 30.");
        FlashWheelReader x = new FlashWheelReader();
        due("read(1, -30)", x.read(1, -30), 0);
        due("read(500, 30)", x.read(500, 30), 1);
        due("reading(0, 0)", x.reading(0, 0), 1);
        due("reading(0, 1)", x.reading(0, 1), -30);
        due("reading(1, 0)", x.reading(1, 0), 500);
        due("reading(1, 1)", x.reading(1, 1), 30);
        due("read(0, 0)", x.read(0, 0), BAD);
        due("read(501, 0)", x.read(501, 0), BAD);
        due("read(1, -31)", x.read(1, -31), BAD);
        due("read(1, 31)", x.read(1, 31), BAD);
    }

    private static void fitting() {
        DUES.says("Readings", "A speed fits a reading if the wheel, going with this speed for the ticks of the reading, seems to have gone "
            + "its step, that is, if speed * ticks - step is a multiple of the measure.");
        fits("a....", 2, 1, -2, 3);
        fits("a....", 2, -1, -3, 2);
        fits("a....", 1, 30, -5, 0, 5);
        fits("a....", 1, -30, -5, 0, 5);
        fits("a....", 1, 29, -1, 4);
        fits("a....", 5, 0, -5, -4, -3, -2, -1, 0, 1, 2, 3, 4, 5);
        fits("a....", 5, 1);
        fits("a...", 2, 1);
        fits("a...", 2, 2, -5, -3, -1, 1, 3, 5);
        fits("a...a...", 3, 1, -5, -1, 3);
        fits("...", 7, 5, -5, -4, -3, -2, -1, 0, 1, 2, 3, 4, 5);
        // 500 is 3 modulo 7, so that the speed is 1 modulo 7: from -1000 to 995
        FlashWheelReader x = Dues.loaded("a......");
        x.setLimit(1000);
        x.read(500, 3);
        due("candidates() of 500 ticks", x.candidates(), 286);
        due("the smallest of them", x.candidate(0), -1000);
        due("the greatest of them", x.candidate(285), 995);
    }

    private static void fits(String wheel, int ticks, int step, int... speeds) {
        String name = wheel + " after read(" + ticks + ", " + step + "): ";
        FlashWheelReader x = Dues.loaded(wheel);
        x.setLimit(5);
        x.read(ticks, step);
        due(name + "candidates()", x.candidates(), speeds.length);
        for (int k = 0; k < speeds.length; k++) due(name + "candidate(" + k + ")", x.candidate(k), speeds[k]);
        due(name + "candidate() behind the last one", x.candidate(speeds.length), NONE);
    }

    private static void limit() {
        DUES.says("Readings", "There is a limit, 1 to 1000 (initially 100).");
        FlashWheelReader x = new FlashWheelReader();
        due("count(10) of a new reader", x.count(10), 100);
        due("setLimit(1)", x.setLimit(1), 100);
        due("candidates()", x.candidates(), 3);
        due("setLimit(1000)", x.setLimit(1000), 1);
        due("candidates()", x.candidates(), 2001);
        due("setLimit(0)", x.setLimit(0), BAD);
        due("setLimit(1001)", x.setLimit(1001), BAD);
    }

    private static void candidatesInOrder() {
        DUES.says("Readings", "The candidates are all speeds from minus the limit to the limit that fit all readings, in ascending order.");
        FlashWheelReader x = new FlashWheelReader();
        x.setLimit(7);
        due("candidates() without readings", x.candidates(), 15);
        for (int k = 0; k < 15; k++) due("candidate(" + k + ")", x.candidate(k), k - 7);
        due("candidate(15)", x.candidate(15), NONE);
        FlashWheelReader y = twelve();
        int[][] limits = {{30, 5}, {29, 5}, {28, 4}, {19, 4}, {18, 3}, {17, 3}, {16, 2}, {7, 2}, {6, 1}, {5, 1}, {4, 0}, {31, 6}, {40, 6},
            {41, 7}, {42, 7}, {43, 8}};
        for (int[] limit : limits) {
            y.setLimit(limit[0]);
            due("candidates() with the limit " + limit[0], y.candidates(), limit[1]);
        }
        int[] speeds = {-43, -31, -19, -7, 5, 17, 29, 41};
        for (int k = 0; k < speeds.length; k++) due("candidate(" + k + ") of those", y.candidate(k), speeds[k]);
        due("candidates() that fit the first one alone", y.reading(1, 2), 29);
        due("candidates() that fit the second one alone", y.reading(0, 2), 22);
    }

    private static void classes() {
        DUES.says("Readings", "A period tells the candidates apart: those candidates are in the same class for which speed * period has "
            + "the same remainder modulo the measure.");
        FlashWheelReader x = new FlashWheelReader();
        x.setLimit(1);
        due("the rest of -1, 0 and 1, in three classes", x.bestPeriod(1, true), 1);
        x.setLimit(2);
        // -2 with 1, -1 with 2, and 0
        due("the rest of -2 to 2, in three classes", x.bestPeriod(1, true), 2);
        Dues.load(x, "a...");
        // -2 with 2
        due("the rest of -2 to 2 in four classes", x.bestPeriod(1, true), 2);
        Dues.load(x, "a....");
        due("the rest of -2 to 2 in five classes", x.bestPeriod(1, true), 1);
        Dues.load(x, "a");
        due("the rest of -2 to 2 in one class", x.bestPeriod(1, true), 5);
    }

    private static void restOfPeriod() {
        DUES.says("Readings", "The rest of a period is the number of candidates in its largest class.");
        FlashWheelReader x = new FlashWheelReader();
        due("201 speeds in three classes", x.bestPeriod(20, true), 67);
        x.setLimit(7);
        due("15 speeds in three classes", x.bestPeriod(20, true), 5);
        x.setLimit(8);
        // 1 modulo 3 are -8, -5, -2, 1, 4 and 7; 0 are but five
        due("17 speeds in three classes", x.bestPeriod(20, true), 6);
        x.setLimit(9);
        due("19 speeds, of which seven are 0 modulo 3", x.bestPeriod(20, true), 7);
        x.setMark(0, 2);
        x.setLimit(100);
        // 201 is 16 * 12 + 9
        due("201 speeds in twelve classes", x.bestPeriod(20, true), 17);
        Dues.load(x, "a" + ".".repeat(59));
        x.setLimit(1000);
        // 2001 is 33 * 60 + 21
        due("2001 speeds in sixty classes", x.bestPeriod(20, true), 34);
        Dues.load(x, ".".repeat(60));
        due("2001 speeds in one class", x.bestPeriod(20, true), 2001);
    }

    private static void read() {
        FlashWheelReader x = new FlashWheelReader();
        DUES.says(17, "Adds a reading.");
        x.read(7, -3);
        due("count(9)", x.count(9), 1);
        due("reading(0, 0)", x.reading(0, 0), 7);
        due("reading(0, 1)", x.reading(0, 1), -3);
        x.read(7, -3);
        due("count(9) of two that are the same", x.count(9), 2);
        DUES.says(17, "This is a change.");
        DUES.change("read(8, 2)", x, () -> x.read(8, 2), 2);
        DUES.says(17, "`ticks`: 1 to 500");
        due("read(1, 0)", x.read(1, 0), 3);
        due("reading(3, 0)", x.reading(3, 0), 1);
        due("read(500, 0)", x.read(500, 0), 4);
        due("reading(4, 0)", x.reading(4, 0), 500);
        DUES.says(17, "`step`: -30 to 30");
        due("read(1, -30)", x.read(1, -30), 5);
        due("reading(5, 1)", x.reading(5, 1), -30);
        due("read(1, 30)", x.read(1, 30), 6);
        due("reading(6, 1)", x.reading(6, 1), 30);
        DUES.says(17, "Returns its number;");
        FlashWheelReader y = new FlashWheelReader();
        for (int i = 0; i < 8; i++) due("read(1, " + i + ")", y.read(1, i), i);
        y.dropReading(0);
        due("read(1, 9) where one was dropped", y.read(1, 9), 7);
        y.undo();
        due("read(1, 9) after undo()", y.read(1, 9), 7);
    }

    private static void readRefused() {
        FlashWheelReader x = new FlashWheelReader();
        DUES.says(17, "BAD if an argument is out of range;");
        for (int ticks : new int[] {0, -1, 501, MIN, MAX}) {
            DUES.refused("read(" + ticks + ", 0)", x, () -> x.read(ticks, 0), BAD);
        }
        for (int step : new int[] {-31, 31, MIN, MAX}) {
            DUES.refused("read(1, " + step + ")", x, () -> x.read(1, step), BAD);
        }
        DUES.says(17, "FULL if there are 8 readings.");
        for (int i = 0; i < 8; i++) due("read(" + (i + 1) + ", 0)", x.read(i + 1, 0), i);
        DUES.refused("read(1, 0) where there are 8", x, () -> x.read(1, 0), FULL);
        DUES.refused("read(0, 0) where there are 8", x, () -> x.read(0, 0), BAD);
        x.dropReading(3);
        due("read(9, 0) where there are 7", x.read(9, 0), 7);
        due("reading(7, 0)", x.reading(7, 0), 9);
    }

    private static void look() {
        FlashWheelReader x = Dues.loaded("a......*2");
        x.setFlash(0, 500);
        DUES.says(18, "Adds the reading of a flash and the next one: the period, and the step between them.");
        x.look(0);
        due("count(9)", x.count(9), 1);
        due("reading(0, 0)", x.reading(0, 0), 500);
        due("reading(0, 1)", x.reading(0, 1), -1);
        x.setSpeed(501, 1);
        x.look(1);
        due("reading(1, 0)", x.reading(1, 0), 500);
        // 2 + 499 is 4 modulo 7
        due("reading(1, 1)", x.reading(1, 1), -3);
        x.setFlash(7, 3);
        due("look(0) of another period", x.look(0), 2);
        due("reading(2, 0)", x.reading(2, 0), 3);
        due("reading(2, 1)", x.reading(2, 1), -1);
        x.setSpeed(0, 0);
        due("reading(2, 1), which stays", x.reading(2, 1), -1);
        DUES.says(18, "This is a change.");
        FlashWheelReader y = new FlashWheelReader();
        DUES.change("look(0)", y, () -> y.look(0), 0);
        DUES.change("look(999)", y, () -> y.look(999), 1);
        DUES.says(18, "`flash`: the number of the first one");
        y.setFlash(1, 333);
        due("look(0), of the first flash", y.look(0), 2);
        due("look(2), of the last flash but one", y.look(2), 3);
        due("look(3), of the last flash", y.look(3), BAD);
        DUES.says(18, "Returns the number of the reading;");
        for (int i = 4; i < 8; i++) due("look(1)", y.look(1), i);
    }

    private static void lookRefused() {
        FlashWheelReader x = Dues.loaded("a......*2");
        x.setFlash(0, 500);
        DUES.says(18, "BAD if there is no such flash, or it is the last one;");
        for (int flash : new int[] {-1, 3, 4, 1001, MIN, MAX}) {
            DUES.refused("look(" + flash + ")", x, () -> x.look(flash), BAD);
        }
        DUES.refused("look(2), the last one", x, () -> x.look(2), BAD);
        due("look(1), the last one but one", x.look(1), 0);
        x.setFlash(1000, 1);
        DUES.refused("look(0) of the only one", x, () -> x.look(0), BAD);
        DUES.refused("look(1) behind the only one", x, () -> x.look(1), BAD);
        DUES.says(18, "FULL if there are 8 readings.");
        x.setFlash(0, 500);
        for (int i = 1; i < 8; i++) due("look(0)", x.look(0), i);
        DUES.refused("look(0) where there are 8", x, () -> x.look(0), FULL);
        DUES.refused("look(2), the last one, where there are 8", x, () -> x.look(2), BAD);
        DUES.refused("look(3) where there are 8", x, () -> x.look(3), BAD);
        x.dropReading(7);
        due("look(0) where there are 7", x.look(0), 7);
    }

    private static void dropReading() {
        FlashWheelReader x = new FlashWheelReader();
        for (int i = 0; i < 4; i++) x.read(10 + i, i);
        DUES.says(19, "Removes a reading.");
        x.dropReading(1);
        due("count(9)", x.count(9), 3);
        due("reading(3, 0)", x.reading(3, 0), BAD);
        DUES.says(19, "The numbers of the readings behind it become smaller by 1.");
        int[] left = {10, 12, 13};
        for (int i = 0; i < 3; i++) {
            due("reading(" + i + ", 0)", x.reading(i, 0), left[i]);
            due("reading(" + i + ", 1)", x.reading(i, 1), left[i] - 10);
        }
        DUES.says(19, "This is a change.");
        FlashWheelReader y = new FlashWheelReader();
        y.read(3, 1);
        y.read(4, 2);
        DUES.change("dropReading(1)", y, () -> y.dropReading(1), 1);
        DUES.change("dropReading(0)", y, () -> y.dropReading(0), 0);
        DUES.says(19, "`reading`: the reading");
        due("dropReading(2), the last one", x.dropReading(2), 2);
        due("dropReading(0), the first one", x.dropReading(0), 1);
        due("reading(0, 0)", x.reading(0, 0), 12);
        due("dropReading(0), the only one", x.dropReading(0), 0);
        DUES.says(19, "Returns how many readings are left;");
        FlashWheelReader z = new FlashWheelReader();
        for (int i = 0; i < 8; i++) z.read(10 + i, i);
        for (int i = 7; i >= 0; i--) due("dropReading(" + i / 2 + ")", z.dropReading(i / 2), i);
        DUES.says(19, "BAD if there is no such reading.");
        DUES.refused("dropReading(0) of none", z, () -> z.dropReading(0), BAD);
        z.read(5, 5);
        z.read(6, 6);
        for (int reading : new int[] {-1, 2, 8, MIN, MAX}) {
            DUES.refused("dropReading(" + reading + ")", z, () -> z.dropReading(reading), BAD);
        }
    }

    private static void reading() {
        FlashWheelReader x = twelve();
        DUES.says(20, "Returns a property of a reading.");
        due("reading(0, 0)", x.reading(0, 0), 4);
        due("reading(0, 1)", x.reading(0, 1), 8);
        due("reading(1, 0)", x.reading(1, 0), 3);
        due("reading(1, 1)", x.reading(1, 1), 3);
        DUES.says(20, "`reading`: the reading");
        due("reading(1, 0), the last one", x.reading(1, 0), 3);
        due("reading(2, 0)", x.reading(2, 0), BAD);
        DUES.says(20, "`what`: 0 for its ticks, 1 for its step, 2 for how many candidates there would be without it");
        x.read(1, -7);
        due("reading(2, 0)", x.reading(2, 0), 1);
        due("reading(2, 1)", x.reading(2, 1), -7);
        due("reading(2, 2), as the others say the same", x.reading(2, 2), 5);
        x.dropReading(2);
        // Without 4 * v = 8 the speeds that are 1 modulo 4 are left, without 3 * v = 3 those that are 2 modulo 3.
        due("reading(0, 2)", x.reading(0, 2), 15);
        due("reading(1, 2)", x.reading(1, 2), 20);
        x.read(1, 0);
        due("reading(0, 2) where there are no candidates", x.reading(0, 2), 0);
        due("reading(2, 2) where there are no candidates", x.reading(2, 2), 5);
        due("candidates(), as they were", x.candidates(), 0);
        FlashWheelReader one = new FlashWheelReader();
        one.read(1, 1);
        due("reading(0, 2) of the only one", one.reading(0, 2), 201);
        DUES.says(20, "Returns the property;");
        due("reading(0, 0)", one.reading(0, 0), 1);
        due("reading(0, 1)", one.reading(0, 1), 1);
        one.setLimit(1000);
        due("reading(0, 2) with another limit", one.reading(0, 2), 2001);
    }

    private static void readingRefused() {
        DUES.says(20, "BAD if there is no such reading or what is out of range.");
        FlashWheelReader x = new FlashWheelReader();
        DUES.refused("reading(0, 0) of none", x, () -> x.reading(0, 0), BAD);
        for (int i = 0; i < 8; i++) x.read(i + 1, 0);
        for (int reading : new int[] {-1, 8, MIN, MAX}) {
            for (int what = 0; what <= 2; what++) {
                int property = what;
                DUES.refused("reading(" + reading + ", " + what + ")", x, () -> x.reading(reading, property), BAD);
            }
        }
        for (int what : new int[] {-1, 3, MIN, MAX}) {
            DUES.refused("reading(0, " + what + ")", x, () -> x.reading(0, what), BAD);
        }
        x.dropReading(7);
        due("reading(7, 0), which is dropped", x.reading(7, 0), BAD);
        due("reading(6, 0)", x.reading(6, 0), 7);
    }

    private static void setLimit() {
        FlashWheelReader x = new FlashWheelReader();
        DUES.says(21, "Sets the limit.");
        x.setLimit(9);
        due("count(10)", x.count(10), 9);
        due("candidates()", x.candidates(), 19);
        DUES.says(21, "This is a change.");
        DUES.change("setLimit(8)", x, () -> x.setLimit(8), 9);
        x.undo();
        FlashWheelReader y = new FlashWheelReader();
        DUES.change("setLimit(100), as it is", y, () -> y.setLimit(100), 100);
        DUES.says(21, "`limit`: 1 to 1000");
        due("setLimit(1)", x.setLimit(1), 9);
        due("count(10)", x.count(10), 1);
        due("setLimit(1000)", x.setLimit(1000), 1);
        due("count(10)", x.count(10), 1000);
        DUES.says(21, "Returns the limit before;");
        due("setLimit(77)", x.setLimit(77), 1000);
        due("setLimit(77) again", x.setLimit(77), 77);
        x.undo();
        x.undo();
        due("setLimit(78) after undo()", x.setLimit(78), 1000);
        DUES.says(21, "BAD if limit is out of range.");
        for (int limit : new int[] {0, -1, 1001, MIN, MAX}) {
            DUES.refused("setLimit(" + limit + ")", x, () -> x.setLimit(limit), BAD);
        }
    }

    private static void candidates() {
        DUES.says(22, "Counts the candidates.");
        FlashWheelReader x = twelve();
        due("candidates()", x.candidates(), 5);
        x.read(1, 29);
        due("candidates() with a great step", x.candidates(), 5);
        x.setMark(6, 1);
        due("candidates() with the measure 6", x.candidates(), 10);
        DUES.says(22, "Returns the number.");
        x.read(1, 0);
        due("candidates() of none", x.candidates(), 0);
        due("candidates() of all", new FlashWheelReader().candidates(), 201);
    }

    private static void candidate() {
        FlashWheelReader x = twelve();
        DUES.says(23, "Returns a candidate.");
        due("candidate(1)", x.candidate(1), -7);
        DUES.says(23, "`k`: its index in ascending order, from 0");
        int[] speeds = {-19, -7, 5, 17, 29};
        for (int k = 0; k < speeds.length; k++) due("candidate(" + k + ")", x.candidate(k), speeds[k]);
        DUES.says(23, "Returns the speed;");
        FlashWheelReader all = new FlashWheelReader();
        all.setLimit(1000);
        due("candidate(0) of 2001", all.candidate(0), -1000);
        due("candidate(1000) of 2001", all.candidate(1000), 0);
        due("candidate(2000) of 2001", all.candidate(2000), 1000);
        DUES.says(23, "NONE if there are not so many;");
        due("candidate(2001) of 2001", all.candidate(2001), NONE);
        due("candidate(5) of 5", x.candidate(5), NONE);
        due("candidate(MAX) of 5", x.candidate(MAX), NONE);
        x.read(1, 0);
        due("candidate(0) of none", x.candidate(0), NONE);
        DUES.says(23, "BAD if k is negative.");
        DUES.refused("candidate(-1) of none", x, () -> x.candidate(-1), BAD);
        DUES.refused("candidate(-1) of 2001", all, () -> all.candidate(-1), BAD);
        DUES.refused("candidate(MIN)", all, () -> all.candidate(MIN), BAD);
    }

    private static void nearest() {
        FlashWheelReader x = twelve();
        DUES.says(24, "Finds the candidate that is nearest to a speed, of two the smaller one.");
        int[] wanted = {-30, -19, -14, -13, -12, -8, -7, -2, -1, 0, 5, 10, 11, 12, 22, 23, 24, 30};
        int[] dues = {-19, -19, -19, -19, -7, -7, -7, -7, -7, 5, 5, 5, 5, 17, 17, 17, 29, 29};
        for (int i = 0; i < wanted.length; i++) due("nearest(" + wanted[i] + ")", x.nearest(wanted[i]), dues[i]);
        DUES.says(24, "`speed`: -1000 to 1000");
        due("nearest(-1000)", x.nearest(-1000), -19);
        due("nearest(1000)", x.nearest(1000), 29);
        FlashWheelReader all = new FlashWheelReader();
        due("nearest(1000) of -100 to 100", all.nearest(1000), 100);
        due("nearest(-1000) of -100 to 100", all.nearest(-1000), -100);
        all.setLimit(1000);
        due("nearest(1000) of all", all.nearest(1000), 1000);
        due("nearest(-1000) of all", all.nearest(-1000), -1000);
        DUES.says(24, "Returns the candidate;");
        due("nearest(0) of all", all.nearest(0), 0);
        due("nearest(-77) of all", all.nearest(-77), -77);
        FlashWheelReader one = twelve();
        one.setLimit(5);
        due("nearest(-1000) of one", one.nearest(-1000), 5);
        due("nearest(1000) of one", one.nearest(1000), 5);
    }

    private static void nearestRefused() {
        FlashWheelReader x = twelve();
        x.read(1, 0);
        DUES.says(24, "NONE if there is none;");
        for (int speed : new int[] {-1000, 0, 5, 1000}) due("nearest(" + speed + ")", x.nearest(speed), NONE);
        DUES.says(24, "BAD if speed is out of range.");
        FlashWheelReader all = new FlashWheelReader();
        for (int speed : new int[] {-1001, 1001, MIN, MAX}) {
            DUES.refused("nearest(" + speed + ") of none", x, () -> x.nearest(speed), BAD);
            DUES.refused("nearest(" + speed + ")", all, () -> all.nearest(speed), BAD);
        }
    }

    private static void odd() {
        DUES.says(25, "Finds the reading that does not go with the others: the smallest one without which there would be candidates.");
        FlashWheelReader x = twelve();
        x.read(1, 0);
        due("odd() of the last one", x.odd(), 2);
        x = Dues.loaded("a...........");
        x.read(1, 0);
        x.read(4, 8);
        x.read(3, 3);
        due("odd() of the first one", x.odd(), 0);
        x.dropReading(0);
        x.undo();
        x.read(1, 5);
        due("odd() of the first one of four", x.odd(), 0);
        x = new FlashWheelReader();
        x.read(1, 0);
        x.read(1, 1);
        due("odd() of two, the smaller one", x.odd(), 0);
        x.read(3, 1);
        due("odd() of two and one that nothing fits", x.odd(), NONE);
        x.dropReading(0);
        due("odd() of the one that nothing fits", x.odd(), 1);
        DUES.says(25, "Returns the reading;");
        FlashWheelReader eight = Dues.loaded("a......");
        for (int i = 1; i <= 7; i++) eight.read(i, i);
        eight.read(1, 2);
        due("odd() of the last one of eight", eight.odd(), 7);
        FlashWheelReader one = new FlashWheelReader();
        one.read(3, 1);
        due("odd() of the only one", one.odd(), 0);
        FlashWheelReader near = twelve();
        near.setLimit(5);
        near.read(1, 0);
        due("odd() without which one candidate is left", near.odd(), 2);
    }

    private static void oddNoneOrState() {
        DUES.says(25, "NONE if there is no such one;");
        FlashWheelReader x = twelve();
        x.read(1, 0);
        x.read(2, 1);
        due("odd() of two that do not go", x.odd(), NONE);
        FlashWheelReader near = twelve();
        near.setLimit(4);
        near.read(1, 3);
        near.read(1, 2);
        due("odd() of three that do not go", near.odd(), NONE);
        DUES.says(25, "STATE if there are candidates.");
        FlashWheelReader none = new FlashWheelReader();
        DUES.refused("odd() without readings", none, none::odd, STATE);
        FlashWheelReader y = twelve();
        DUES.refused("odd() with candidates", y, y::odd, STATE);
        y.setLimit(5);
        due("candidates()", y.candidates(), 1);
        DUES.refused("odd() with one candidate", y, y::odd, STATE);
        y.setLimit(4);
        due("odd() with none, as the limit is too small", y.odd(), 0);
    }

    private static void bestPeriod() {
        DUES.says(26, "Finds the period that would tell most: the smallest one, from 1 to a greatest one, of those with the smallest rest.");
        FlashWheelReader x = twelve();
        due("the period where all are alike", x.bestPeriod(500, false), 1);
        x.dropReading(1);
        // The speeds are 2 modulo 3, from -28 to 29: a period keeps their four remainders modulo 12 apart, or puts some together.
        due("candidates()", x.candidates(), 20);
        for (int greatest : new int[] {1, 2, 3, 12, 500}) due("bestPeriod(" + greatest + ", false)", x.bestPeriod(greatest, false), 1);
        DUES.says(26, "`greatest`: 1 to 500");
        due("bestPeriod(1, true)", x.bestPeriod(1, true), 5);
        due("bestPeriod(500, true)", x.bestPeriod(500, true), 5);
        due("bestPeriod(0, true)", x.bestPeriod(0, true), BAD);
        due("bestPeriod(501, true)", x.bestPeriod(501, true), BAD);
        DUES.says(26, "`rest`: whether this rest is asked for, or else the period");
        due("bestPeriod(7, true)", x.bestPeriod(7, true), 5);
        due("bestPeriod(7, false)", x.bestPeriod(7, false), 1);
        DUES.says(26, "Returns the period, or the rest;");
        x.dropReading(0);
        x.setLimit(1);
        due("the rest of three speeds", x.bestPeriod(500, true), 1);
        x.read(2, 2);
        due("the rest of one speed", x.bestPeriod(500, true), 1);
        due("the period of one speed", x.bestPeriod(500, false), 1);
        due("the rest of all", new FlashWheelReader().bestPeriod(20, true), 67);
        due("the period of all", new FlashWheelReader().bestPeriod(20, false), 1);
    }

    private static void bestPeriodRefused() {
        DUES.says(26, "NONE if there are no candidates;");
        FlashWheelReader x = twelve();
        x.read(1, 0);
        for (int greatest : new int[] {1, 500}) {
            due("the period of none", x.bestPeriod(greatest, false), NONE);
            due("the rest of none", x.bestPeriod(greatest, true), NONE);
        }
        DUES.says(26, "BAD if greatest is out of range.");
        FlashWheelReader all = new FlashWheelReader();
        for (int greatest : new int[] {0, -1, 501, MIN, MAX}) {
            DUES.refused("bestPeriod(" + greatest + ", false) of none", x, () -> x.bestPeriod(greatest, false), BAD);
            DUES.refused("bestPeriod(" + greatest + ", true) of none", x, () -> x.bestPeriod(greatest, true), BAD);
            DUES.refused("bestPeriod(" + greatest + ", false)", all, () -> all.bestPeriod(greatest, false), BAD);
            DUES.refused("bestPeriod(" + greatest + ", true)", all, () -> all.bestPeriod(greatest, true), BAD);
        }
    }

    private static void due(String call, long got, long want) {
        DUES.due(call, got, want);
    }
}
