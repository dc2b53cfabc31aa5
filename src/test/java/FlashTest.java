/** Promises 12 to 16: the flashes, and how the wheel seems to go. */
public final class FlashTest {
    private static final int BAD = FlashWheelReader.BAD, NONE = FlashWheelReader.NONE;
    private static final Dues DUES = new Dues("FlashTest");

    public static void main(String[] args) {
        setting();
        properties();
        steps();
        seeming();
        standingStill();
        DUES.end();
    }

    private static void setting() {
        FlashWheelReader x = new FlashWheelReader();
        due("setFlash(0, 500)", x.setFlash(0, 500), 3);
        due("setFlash(1, 500)", x.setFlash(1, 500), 2);
        due("setFlash(501, 500)", x.setFlash(501, 500), 1);
        due("setFlash(1000, 1)", x.setFlash(1000, 1), 1);
        due("setFlash(0, 1)", x.setFlash(0, 1), 1001);
        due("setFlash(10, 7)", x.setFlash(10, 7), 142);
        due("count(6)", x.count(6), 10);
        due("count(7)", x.count(7), 7);
        due("count(8)", x.count(8), 142);
        due("setFlash(-1, 1)", x.setFlash(-1, 1), BAD);
        due("setFlash(1001, 1)", x.setFlash(1001, 1), BAD);
        due("setFlash(0, 0)", x.setFlash(0, 0), BAD);
        due("setFlash(0, -1)", x.setFlash(0, -1), BAD);
        due("setFlash(0, 501)", x.setFlash(0, 501), BAD);
        due("count(17)", x.count(17), 6);
        due("undo()", x.undo(), 5);
        due("count(8) after undo", x.count(8), 1001);
    }

    private static void properties() {
        FlashWheelReader x = new FlashWheelReader();
        Dues.load(x, "a.....a.....@1*5");
        x.setFlash(2, 499);
        // The turns of the ticks 2, 501 and 1000 are 11, 2506 and 5001: modulo 12 they are 11, 10 and 9.
        int[][] dues = {{2, 11, -1, 0}, {501, 10, -1, 1}};
        for (int flash = 0; flash < 2; flash++) {
            for (int what = 0; what <= 3; what++) {
                due("flash(" + flash + ", " + what + ")", x.flash(flash, what), dues[flash][what]);
            }
        }
        due("flash(2, 0)", x.flash(2, 0), 1000);
        due("flash(2, 1)", x.flash(2, 1), 9);
        due("flash(2, 2), the last one", x.flash(2, 2), NONE);
        due("flash(2, 3)", x.flash(2, 3), 2);
        due("flash(3, 0)", x.flash(3, 0), BAD);
        due("flash(-1, 0)", x.flash(-1, 0), BAD);
        due("flash(0, -1)", x.flash(0, -1), BAD);
        due("flash(0, 4)", x.flash(0, 4), BAD);
        x.setFlash(0, 3);
        // By 15 from flash to flash: modulo the measure 6, that is 3, so that each picture comes again two flashes later.
        due("flash(0, 2), of two ways forward", x.flash(0, 2), 3);
        due("flash(5, 3)", x.flash(5, 3), 1);
        due("flash(6, 3)", x.flash(6, 3), 0);
        due("flash(5, 1)", x.flash(5, 1), (1 + 75) % 12);
        due("flash(6, 1)", x.flash(6, 1), (1 + 90) % 12);
        due("flash(333, 2)", x.flash(333, 2), NONE);
        due("flash(334, 2)", x.flash(334, 2), BAD);
    }

    private static void steps() {
        FlashWheelReader x = new FlashWheelReader();
        Dues.load(x, "a.......*1");
        int[] dues = {0, 1, 2, 3, 4, -3, -2, -1, 0};
        for (int tick = 0; tick < dues.length; tick++) {
            due("step(0, " + tick + ")", x.step(0, tick), dues[tick]);
            due("step(" + (992 + tick) + ", 1000)", x.step(992 + tick, 1000), dues[8 - tick]);
        }
        due("step(7, 4)", x.step(7, 4), -3);
        due("step(4, 0), forward too", x.step(4, 0), 4);
        due("step(9, 9)", x.step(9, 9), 0);
        due("step(-1, 0)", x.step(-1, 0), BAD);
        due("step(0, -1)", x.step(0, -1), BAD);
        due("step(1001, 0)", x.step(1001, 0), BAD);
        due("step(0, 1001)", x.step(0, 1001), BAD);
        Dues.load(x, "a....*1");
        int[] odd = {0, 1, 2, -2, -1, 0};
        for (int tick = 0; tick < odd.length; tick++) due("step(0, " + tick + ") of 5", x.step(0, tick), odd[tick]);
        Dues.load(x, "ab".repeat(30) + "*1");
        due("step(0, 1) of measure 2", x.step(0, 1), 1);
        due("step(1, 0) of measure 2", x.step(1, 0), 1);
        Dues.load(x, "a" + ".".repeat(59) + "*1");
        due("step(0, 30) of 60", x.step(0, 30), 30);
        due("step(0, 31) of 60", x.step(0, 31), -29);
    }

    private static void seeming() {
        FlashWheelReader x = new FlashWheelReader();
        Dues.load(x, "a....*1");
        x.setSpeed(10, -1);
        x.setSpeed(20, 0);
        due("seems(0)", x.seems(0), 980);
        due("seems(1)", x.seems(1), 10);
        due("seems(2)", x.seems(2), 10);
        due("seems(3)", x.seems(3), 5);
        due("seems(-1)", x.seems(-1), BAD);
        due("seems(4)", x.seems(4), BAD);
        x.setFlash(0, 4);
        // The turns at the ticks 0, 4, 8, 12, 16, 20, 24, .. are 0, 4, 8, 8, 4, 0, 0, ..
        due("seems(0) with 4", x.seems(0), 246);
        due("seems(1) with 4", x.seems(1), 2);
        due("seems(2) with 4", x.seems(2), 2);
        due("seems(3) with 4", x.seems(3), 3);
        x.setFlash(1000, 4);
        for (int what = 0; what <= 3; what++) due("seems(" + what + ") of one", x.seems(what), what == 3 ? 1 : 0);
        Dues.load(x, "a.a.a.*1");
        x.setFlash(0, 1);
        due("seems(1) of two ways", x.seems(1), 1000);
        due("seems(2) of two ways", x.seems(2), 0);
        due("seems(3) of two ways", x.seems(3), 2);
    }

    private static void standingStill() {
        FlashWheelReader x = new FlashWheelReader();
        Dues.load(x, "a" + ".".repeat(58) + "*1");
        due("stillPeriod(1, 500)", x.stillPeriod(1, 500), 59);
        due("stillPeriod(1, 58)", x.stillPeriod(1, 58), NONE);
        due("stillPeriod(1, 59)", x.stillPeriod(1, 59), 59);
        due("stillPeriod(59, 59)", x.stillPeriod(59, 59), 59);
        due("stillPeriod(60, 500)", x.stillPeriod(60, 500), 118);
        due("stillPeriod(473, 500)", x.stillPeriod(473, 500), NONE);
        due("stillPeriod(500, 500)", x.stillPeriod(500, 500), NONE);
        due("stillPeriod(0, 5)", x.stillPeriod(0, 5), BAD);
        due("stillPeriod(-3, 5)", x.stillPeriod(-3, 5), BAD);
        due("stillPeriod(1, 501)", x.stillPeriod(1, 501), BAD);
        due("stillPeriod(501, 501)", x.stillPeriod(501, 501), BAD);
        due("stillPeriod(9, 8)", x.stillPeriod(9, 8), BAD);
        due("stillPeriod(1, MAX)", x.stillPeriod(1, Integer.MAX_VALUE), BAD);
        x.setSpeed(1, 0);
        due("stillPeriod with the speed of tick 0", x.stillPeriod(1, 500), 59);
        x.setSpeed(0, 0);
        due("stillPeriod(7, 500) of a wheel that stands", x.stillPeriod(7, 500), 7);
        Dues.load(x, "a..a..a..a..*-10");
        due("stillPeriod(1, 500) with the measure", x.stillPeriod(1, 500), 3);
        due("stillPeriod(4, 500) with the measure", x.stillPeriod(4, 500), 6);
    }

    private static void due(String call, long got, long want) {
        DUES.due(call, got, want);
    }
}
