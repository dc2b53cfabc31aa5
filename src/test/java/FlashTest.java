/** The section "Flashes", and promises 12 to 16: the flashes, and how the wheel seems to go. */
public final class FlashTest {
    private static final int BAD = FlashWheelReader.BAD, NONE = FlashWheelReader.NONE;
    private static final int MIN = Integer.MIN_VALUE, MAX = Integer.MAX_VALUE;
    private static final Dues DUES = new Dues("FlashTest");

    public static void main(String[] args) {
        ask();
        DUES.end();
    }

    static void ask() {
        firstAndPeriod();
        flashes();
        picture();
        stepOfPictures();
        setFlash();
        flash();
        flashRefused();
        step();
        seems();
        seemsNothing();
        stillPeriod();
        stillPeriodEdges();
    }

    private static void firstAndPeriod() {
        DUES.says("Flashes", "There are the first flash, a tick from 0 to 1000 (initially 0), and the period, 1 to 500 (initially 1).");
        FlashWheelReader x = new FlashWheelReader();
        due("the first flash of a new reader", x.count(6), 0);
        due("the period of a new reader", x.count(7), 1);
        due("setFlash(1000, 500)", x.setFlash(1000, 500), 1);
        due("the first flash", x.count(6), 1000);
        due("the period", x.count(7), 500);
        due("setFlash(1001, 500)", x.setFlash(1001, 500), BAD);
        due("setFlash(-1, 500)", x.setFlash(-1, 500), BAD);
        due("setFlash(0, 501)", x.setFlash(0, 501), BAD);
        due("setFlash(0, 0)", x.setFlash(0, 0), BAD);
        due("setFlash(0, 1)", x.setFlash(0, 1), 1001);
    }

    private static void flashes() {
        DUES.says("Flashes", "The flashes are at the first tick, and then each time a period later, as long as the tick is at most 1000;");
        FlashWheelReader x = new FlashWheelReader();
        int[][] settings = {{0, 500, 3}, {1, 500, 2}, {500, 500, 2}, {501, 500, 1}, {1000, 1, 1}, {999, 1, 2}, {999, 2, 1}, {0, 1, 1001},
            {10, 7, 142}, {13, 7, 142}, {14, 7, 141}, {0, 3, 334}};
        for (int[] s : settings) {
            int last = s[2] - 1;
            due("setFlash(" + s[0] + ", " + s[1] + ")", x.setFlash(s[0], s[1]), s[2]);
            due("the tick of the first flash", x.flash(0, 0), s[0]);
            due("the tick of the last flash", x.flash(last, 0), s[0] + last * s[1]);
            due("a flash behind it", x.flash(last + 1, 0), BAD);
        }
        x.setFlash(2, 499);
        for (int flash = 0; flash < 3; flash++) due("flash(" + flash + ", 0)", x.flash(flash, 0), 2 + 499 * flash);
        DUES.says("Flashes", "they are numbered from 0.");
        due("flash(-1, 0)", x.flash(-1, 0), BAD);
        due("flash(0, 0)", x.flash(0, 0), 2);
        due("flash(2, 0)", x.flash(2, 0), 1000);
        due("flash(3, 0)", x.flash(3, 0), BAD);
    }

    private static void picture() {
        DUES.says("Flashes", "The picture of a tick is what is at each place then.");
        FlashWheelReader x = Dues.loaded("a.a.*1");
        due("the earliest picture as that of tick 2, though the turn is another", x.flash(2, 3), 0);
        due("its turn", x.flash(2, 1), 2);
        due("the earliest picture as that of tick 3", x.flash(3, 3), 1);
        Dues.load(x, "a.b.*1");
        due("the earliest picture as that of tick 2, with other marks", x.flash(2, 3), 2);
        due("the earliest picture as that of tick 4", x.flash(4, 3), 0);
    }

    private static void stepOfPictures() {
        DUES.says("Flashes", "The step between two ticks is the number d with -s < 2 * d <= s (where s is the measure) such that the picture "
            + "of the first tick, turned by d, is the picture of the second one.");
        FlashWheelReader x = Dues.loaded("a.......*1");
        int[] even = {0, 1, 2, 3, 4, -3, -2, -1, 0, 1};
        for (int tick = 0; tick < even.length; tick++) due("step(0, " + tick + ") of 8", x.step(0, tick), even[tick]);
        Dues.load(x, "a....*1");
        int[] odd = {0, 1, 2, -2, -1, 0, 1};
        for (int tick = 0; tick < odd.length; tick++) due("step(0, " + tick + ") of 5", x.step(0, tick), odd[tick]);
        Dues.load(x, "a....*-1");
        for (int tick = 0; tick < odd.length; tick++) due("step(0, " + tick + ") of 5 back", x.step(0, tick), -odd[tick]);
        Dues.load(x, "a..b..a..b..*1");
        int[] ofMeasure = {0, 1, 2, 3, -2, -1, 0};
        for (int tick = 0; tick < ofMeasure.length; tick++) due("step(0, " + tick + ") of measure 6", x.step(0, tick), ofMeasure[tick]);
        Dues.load(x, "...*1");
        due("step(0, 1) of measure 1", x.step(0, 1), 0);
        DUES.says("Flashes", "(So it is the smallest way that it can have gone, by its absolute value; forward, if there are two.)");
        Dues.load(x, "a.......*1");
        due("step(0, 4), half of 8", x.step(0, 4), 4);
        due("step(4, 0), half of 8 too", x.step(4, 0), 4);
        due("step(0, 5), more than half", x.step(0, 5), -3);
        due("step(5, 0), less than half", x.step(5, 0), 3);
        Dues.load(x, "ab".repeat(30) + "*1");
        due("step(0, 1) of measure 2", x.step(0, 1), 1);
        due("step(1, 0) of measure 2", x.step(1, 0), 1);
        Dues.load(x, "a" + ".".repeat(59) + "*1");
        due("step(0, 30) of 60", x.step(0, 30), 30);
        due("step(0, 31) of 60", x.step(0, 31), -29);
        due("step(30, 0) of 60", x.step(30, 0), 30);
    }

    private static void setFlash() {
        FlashWheelReader x = new FlashWheelReader();
        DUES.says(12, "Sets the flashes.");
        x.setFlash(10, 7);
        due("count(6)", x.count(6), 10);
        due("count(7)", x.count(7), 7);
        due("flash(3, 0)", x.flash(3, 0), 31);
        DUES.says(12, "This is a change.");
        DUES.change("setFlash(11, 8)", x, () -> x.setFlash(11, 8), 124);
        DUES.change("setFlash(11, 8), as it is", x, () -> x.setFlash(11, 8), 124);
        DUES.says(12, "`first`: 0 to 1000");
        due("setFlash(0, 8)", x.setFlash(0, 8), 126);
        due("count(6)", x.count(6), 0);
        due("setFlash(1000, 8)", x.setFlash(1000, 8), 1);
        due("count(6)", x.count(6), 1000);
        DUES.says(12, "`period`: 1 to 500");
        due("setFlash(4, 1)", x.setFlash(4, 1), 997);
        due("count(7)", x.count(7), 1);
        due("setFlash(4, 500)", x.setFlash(4, 500), 2);
        due("count(7)", x.count(7), 500);
        DUES.says(12, "Returns the number of flashes then;");
        due("setFlash(0, 1)", x.setFlash(0, 1), 1001);
        due("setFlash(1, 1)", x.setFlash(1, 1), 1000);
        due("setFlash(0, 500)", x.setFlash(0, 500), 3);
        due("setFlash(1, 499)", x.setFlash(1, 499), 3);
        due("setFlash(1, 333)", x.setFlash(1, 333), 4);
        due("setFlash(2, 333)", x.setFlash(2, 333), 3);
        due("count(8)", x.count(8), 3);
        DUES.says(12, "BAD if an argument is out of range.");
        for (int first : new int[] {-1, 1001, MIN, MAX}) {
            DUES.refused("setFlash(" + first + ", 1)", x, () -> x.setFlash(first, 1), BAD);
        }
        for (int period : new int[] {0, -1, 501, MIN, MAX}) {
            DUES.refused("setFlash(0, " + period + ")", x, () -> x.setFlash(0, period), BAD);
            DUES.refused("setFlash(1000, " + period + ")", x, () -> x.setFlash(1000, period), BAD);
        }
    }

    private static void flash() {
        FlashWheelReader x = Dues.loaded("a.....a.....@1*5");
        x.setFlash(2, 499);
        DUES.says(13, "Returns a property of a flash.");
        // The turns of the ticks 2, 501 and 1000 are 11, 2506 and 5001: modulo 12 they are 11, 10 and 9.
        int[][] dues = {{2, 11, -1, 0}, {501, 10, -1, 1}, {1000, 9, NONE, 2}};
        for (int flash = 0; flash < 3; flash++) {
            for (int what = 0; what <= 3; what++) {
                due("flash(" + flash + ", " + what + ")", x.flash(flash, what), dues[flash][what]);
            }
        }
        DUES.says(13, "`flash`: its number");
        x.setFlash(0, 3);
        due("flash(0, 0)", x.flash(0, 0), 0);
        due("flash(333, 0), the last one", x.flash(333, 0), 999);
        due("flash(334, 0)", x.flash(334, 0), BAD);
        DUES.says(13, "`what`: 0 for its tick, 1 for the turn modulo n, 2 for the step between it and the next flash (NONE for the last one), "
            + "3 for the number of the earliest flash with the same picture");
        // By 15 from flash to flash: modulo the measure 6 that is 3, so that each picture comes again two flashes later.
        for (int flash = 0; flash <= 8; flash++) {
            due("flash(" + flash + ", 0)", x.flash(flash, 0), 3 * flash);
            due("flash(" + flash + ", 1)", x.flash(flash, 1), (1 + 15 * flash) % 12);
            due("flash(" + flash + ", 2)", x.flash(flash, 2), 3);
            due("flash(" + flash + ", 3)", x.flash(flash, 3), flash % 2);
        }
        due("flash(332, 2)", x.flash(332, 2), 3);
        due("flash(333, 2), the last one", x.flash(333, 2), NONE);
        due("flash(333, 3), the last one", x.flash(333, 3), 1);
        x.setFlash(1000, 1);
        due("flash(0, 2) of the only one", x.flash(0, 2), NONE);
        due("flash(0, 3) of the only one", x.flash(0, 3), 0);
        FlashWheelReader y = Dues.loaded("a....*1");
        y.setSpeed(3, 0);
        int[] alike = {0, 1, 2, 3, 3, 3};
        for (int flash = 0; flash < alike.length; flash++) due("flash(" + flash + ", 3)", y.flash(flash, 3), alike[flash]);
        due("flash(1000, 3)", y.flash(1000, 3), 3);
    }

    private static void flashRefused() {
        DUES.says(13, "Returns the property;");
        FlashWheelReader x = Dues.loaded("a....*-6");
        x.setFlash(4, 9);
        due("flash(1, 0)", x.flash(1, 0), 13);
        due("flash(1, 1)", x.flash(1, 1), 2);
        due("flash(1, 2)", x.flash(1, 2), 1);
        due("flash(6, 3)", x.flash(6, 3), 1);
        DUES.says(13, "BAD if there is no such flash or what is out of range.");
        for (int flash : new int[] {-1, 111, 1000, MIN, MAX}) {
            for (int what = 0; what <= 3; what++) {
                int property = what;
                DUES.refused("flash(" + flash + ", " + what + ")", x, () -> x.flash(flash, property), BAD);
            }
        }
        for (int what : new int[] {-1, 4, MIN, MAX}) {
            DUES.refused("flash(0, " + what + ")", x, () -> x.flash(0, what), BAD);
        }
        due("flash(110, 0)", x.flash(110, 0), 994);
    }

    private static void step() {
        FlashWheelReader x = Dues.loaded("a.......*1");
        x.setSpeed(500, -1);
        DUES.says(14, "Returns the step between two ticks.");
        due("step(3, 5)", x.step(3, 5), 2);
        due("step(499, 501)", x.step(499, 501), 0);
        due("step(600, 603)", x.step(600, 603), -3);
        DUES.says(14, "`first`: a tick, 0 to 1000");
        due("step(0, 3)", x.step(0, 3), 3);
        due("step(1000, 997)", x.step(1000, 997), 3);
        due("step(-1, 3)", x.step(-1, 3), BAD);
        due("step(1001, 3)", x.step(1001, 3), BAD);
        DUES.says(14, "`second`: another or the same tick (possibly an earlier one)");
        due("step(0, 0), the same one", x.step(0, 0), 0);
        due("step(1000, 1000), the same one", x.step(1000, 1000), 0);
        due("step(7, 4), an earlier one", x.step(7, 4), -3);
        due("step(0, 1000)", x.step(0, 1000), 0);
        due("step(1, 1000)", x.step(1, 1000), -1);
        DUES.says(14, "Returns the step;");
        due("step(0, 4), the greatest", x.step(0, 4), 4);
        due("step(1, 6), the smallest", x.step(1, 6), -3);
        DUES.says(14, "BAD if one of them is out of range.");
        for (int tick : new int[] {-1, 1001, MIN, MAX}) {
            DUES.refused("step(" + tick + ", 0)", x, () -> x.step(tick, 0), BAD);
            DUES.refused("step(1000, " + tick + ")", x, () -> x.step(1000, tick), BAD);
            DUES.refused("step of two times " + tick, x, () -> x.step(tick, tick), BAD);
        }
    }

    private static void seems() {
        FlashWheelReader x = Dues.loaded("a....*1");
        x.setSpeed(10, -1);
        x.setSpeed(20, 0);
        DUES.says(15, "Counts how the wheel seems to go from flash to flash.");
        counts(x, "each tick", 980, 10, 10, 5);
        x.setFlash(0, 4);
        // The turns at the ticks 0, 4, 8, 12, 16, 20, 24, .. are 0, 4, 8, 8, 4, 0, 0, ..
        counts(x, "each 4 ticks", 246, 2, 2, 3);
        DUES.says(15, "`what`: 0 for how often it seems to stand still, 1 for how often it seems to go forward, 2 for how often back, "
            + "3 for how many different pictures there are");
        Dues.load(x, "a....*5");
        counts(x, "turns of 5 cells", 250, 0, 0, 1);
        Dues.load(x, "a....*3");
        counts(x, "12 is 2 modulo 5", 0, 250, 0, 5);
        Dues.load(x, "a....*2");
        counts(x, "8 is 3 modulo 5, and so 2 back", 0, 0, 250, 5);
        Dues.load(x, "a.a.a.*1");
        x.setFlash(0, 1);
        counts(x, "half of the measure, which is forward", 0, 1000, 0, 2);
        Dues.load(x, "a" + ".".repeat(59) + "*1");
        counts(x, "60 pictures", 0, 1000, 0, 60);
        DUES.says(15, "Returns the number;");
        x.setFlash(1, 1);
        counts(x, "one flash less", 0, 999, 0, 60);
        x.setFlash(942, 1);
        counts(x, "59 flashes", 0, 58, 0, 59);
        x.setFlash(941, 1);
        counts(x, "60 flashes", 0, 59, 0, 60);
        x.setFlash(940, 1);
        counts(x, "61 flashes", 0, 60, 0, 60);
    }

    private static void seemsNothing() {
        DUES.says(15, "BAD if what is out of range.");
        FlashWheelReader x = Dues.loaded("a....*1");
        for (int what : new int[] {-1, 4, MIN, MAX}) {
            DUES.refused("seems(" + what + ")", x, () -> x.seems(what), BAD);
        }
        DUES.says(15, "Counts how the wheel seems to go from flash to flash.");
        x.setFlash(1000, 4);
        counts(x, "one flash, so that there is no next one", 0, 0, 0, 1);
        x.setFlash(999, 1);
        counts(x, "two flashes", 0, 1, 0, 2);
    }

    private static void counts(FlashWheelReader x, String name, int still, int forward, int back, int pictures) {
        due("seems(0), " + name, x.seems(0), still);
        due("seems(1), " + name, x.seems(1), forward);
        due("seems(2), " + name, x.seems(2), back);
        due("seems(3), " + name, x.seems(3), pictures);
    }

    private static void stillPeriod() {
        FlashWheelReader x = Dues.loaded("a" + ".".repeat(58) + "*1");
        DUES.says(16, "Finds the smallest period from one to another one with which the wheel, going with the speed of tick 0 all the time, "
            + "would seem to stand still.");
        due("stillPeriod(1, 500)", x.stillPeriod(1, 500), 59);
        due("stillPeriod(60, 500)", x.stillPeriod(60, 500), 118);
        x.setSpeed(1, 0);
        due("stillPeriod with the speed of tick 0", x.stillPeriod(1, 500), 59);
        Dues.load(x, "a..a..a..a..*-10");
        due("stillPeriod(1, 500) with the measure", x.stillPeriod(1, 500), 3);
        due("stillPeriod(4, 500) with the measure", x.stillPeriod(4, 500), 6);
        Dues.load(x, "a...........*8");
        due("stillPeriod(1, 500) of 8 modulo 12", x.stillPeriod(1, 500), 3);
        Dues.load(x, "a......*-1000");
        due("stillPeriod(1, 500) of -1000 modulo 7", x.stillPeriod(1, 500), 7);
        due("stillPeriod(491, 500) of -1000 modulo 7", x.stillPeriod(491, 500), 497);
        x.setSpeed(0, 0);
        due("stillPeriod(7, 500) of a wheel that stands", x.stillPeriod(7, 500), 7);
        Dues.load(x, "....*1");
        due("stillPeriod(5, 500) of measure 1", x.stillPeriod(5, 500), 5);
    }

    private static void stillPeriodEdges() {
        FlashWheelReader x = Dues.loaded("a" + ".".repeat(58) + "*1");
        DUES.says(16, "`from`: 1 to 500");
        due("stillPeriod(0, 500)", x.stillPeriod(0, 500), BAD);
        due("stillPeriod(1, 500)", x.stillPeriod(1, 500), 59);
        due("stillPeriod(500, 500)", x.stillPeriod(500, 500), NONE);
        due("stillPeriod(501, 501)", x.stillPeriod(501, 501), BAD);
        DUES.says(16, "`to`: from to 500");
        due("stillPeriod(59, 59)", x.stillPeriod(59, 59), 59);
        due("stillPeriod(59, 58)", x.stillPeriod(59, 58), BAD);
        due("stillPeriod(59, 500)", x.stillPeriod(59, 500), 59);
        due("stillPeriod(59, 501)", x.stillPeriod(59, 501), BAD);
        DUES.says(16, "Returns the period;");
        due("stillPeriod(1, 59), the last one", x.stillPeriod(1, 59), 59);
        due("stillPeriod(59, 60), the first one", x.stillPeriod(59, 60), 59);
        FlashWheelReader y = Dues.loaded("a....*1");
        due("stillPeriod(500, 500), the greatest one", y.stillPeriod(500, 500), 500);
        y.setSpeed(0, 0);
        due("stillPeriod(1, 1), the smallest one", y.stillPeriod(1, 1), 1);
        DUES.says(16, "NONE if there is none;");
        due("stillPeriod(1, 58)", x.stillPeriod(1, 58), NONE);
        due("stillPeriod(60, 117)", x.stillPeriod(60, 117), NONE);
        due("stillPeriod(473, 500)", x.stillPeriod(473, 500), NONE);
        due("stillPeriod(1, 1)", x.stillPeriod(1, 1), NONE);
        DUES.says(16, "BAD if an argument is out of range.");
        for (int from : new int[] {0, -1, 501, MIN, MAX}) {
            DUES.refused("stillPeriod(" + from + ", 500)", x, () -> x.stillPeriod(from, 500), BAD);
        }
        for (int to : new int[] {8, 0, -1, 501, MIN, MAX}) {
            DUES.refused("stillPeriod(9, " + to + ")", x, () -> x.stillPeriod(9, to), BAD);
        }
    }

    private static void due(String call, long got, long want) {
        DUES.due(call, got, want);
    }
}
