/** The section "Wheel", and promises 1, 6 to 11 and 33: the wheel, its speeds and the counts. */
public final class WheelTest {
    private static final int BAD = FlashWheelReader.BAD, STATE = FlashWheelReader.STATE, FULL = FlashWheelReader.FULL;
    private static final int MIN = Integer.MIN_VALUE, MAX = Integer.MAX_VALUE;
    private static final Dues DUES = new Dues("WheelTest");

    public static void main(String[] args) {
        ask();
        DUES.end();
    }

    static void ask() {
        cells();
        places();
        remainders();
        startAndSpeed();
        changes();
        ticks();
        turnedWheel();
        measure();
        divisor();
        initially();
        newObject();
        setMark();
        setMarkRefused();
        setStart();
        setSpeed();
        setSpeedRefused();
        setSpeedFull();
        dropChange();
        dropChangeRefused();
        markAt();
        turn();
        count();
        countAll();
    }

    private static void cells() {
        DUES.says("Wheel", "A wheel has n cells, 1 to 60, numbered from 0, each with a mark, 1 to 3, or without one (0).");
        FlashWheelReader one = Dues.loaded("b");
        due("n of the smallest wheel", one.count(0), 1);
        due("its cell", one.markAt(0, 0), 2);
        due("a cell behind it", one.setMark(1, 0), BAD);
        due("its cell without a mark", one.setMark(0, 0), 2);
        FlashWheelReader most = Dues.loaded(".".repeat(59) + "c");
        due("n of the greatest wheel", most.count(0), 60);
        due("its last cell", most.markAt(0, 59), 3);
        due("a cell behind it", most.setMark(60, 1), BAD);
        due("a cell before it", most.setMark(-1, 1), BAD);
        due("its first cell", most.setMark(0, 1), 0);
        FlashWheelReader x = new FlashWheelReader();
        due("a wheel of no cells", Dues.load(x, ""), -10);
        due("a wheel of 61 cells", Dues.load(x, "a".repeat(61)), -70);
        due("n as before", x.count(0), 12);
        due("all marks", Dues.load(x, ".abc"), 4);
        for (int cell = 0; cell < 4; cell++) due("the mark of cell " + cell, x.markAt(0, cell), cell);
    }

    private static void places() {
        DUES.says("Wheel", "It turns within n places, numbered from 0: at a tick, cell i is at the place (i + turn) modulo n, "
            + "where the turn of tick t is the start plus the speeds of all ticks from 0 to t - 1.");
        FlashWheelReader x = Dues.loaded("abc.@1*1");
        int[][] marks = {{0, 1, 2, 3}, {3, 0, 1, 2}, {2, 3, 0, 1}, {1, 2, 3, 0}, {0, 1, 2, 3}};
        for (int tick = 0; tick < marks.length; tick++) {
            for (int place = 0; place < 4; place++) {
                due("markAt(" + tick + ", " + place + ")", x.markAt(tick, place), marks[tick][place]);
            }
        }
        x.setSpeed(2, 2);
        // The turns are 1, 2, 3, 5, 7: the speed of tick 2 counts from tick 3 on.
        int[] turns = {1, 2, 3, 1, 3};
        for (int tick = 0; tick < turns.length; tick++) due("turn(" + tick + ")", x.turn(tick), turns[tick]);
    }

    private static void remainders() {
        DUES.says("Wheel", "(Remainders modulo a number are never negative here.)");
        FlashWheelReader x = Dues.loaded("ab...*-1");
        int[] turns = {0, 4, 3, 2, 1, 0, 4};
        for (int tick = 0; tick < turns.length; tick++) due("turn(" + tick + ")", x.turn(tick), turns[tick]);
        due("markAt(1, 4)", x.markAt(1, 4), 1);
        due("markAt(1, 0)", x.markAt(1, 0), 2);
        due("markAt(2, 4)", x.markAt(2, 4), 2);
        // 1000000 is 1 modulo 7
        due("turn(1000) far back", Dues.loaded("a......*-1000").turn(1000), 6);
    }

    private static void startAndSpeed() {
        DUES.says("Wheel", "The start is 0 to 59, the speed of tick 0 is -1000 to 1000.");
        FlashWheelReader x = new FlashWheelReader();
        due("setStart(59)", x.setStart(59), 0);
        due("the start, which is not taken modulo n", x.count(3), 59);
        due("turn(0)", x.turn(0), 11);
        due("setStart(0)", x.setStart(0), 59);
        due("setSpeed(0, 1000)", x.setSpeed(0, 1000), 0);
        due("the speed, which is not taken modulo n", x.count(4), 1000);
        due("setSpeed(0, -1000)", x.setSpeed(0, -1000), 0);
        due("the speed", x.count(4), -1000);
        DUES.refused("setStart(60)", x, () -> x.setStart(60), BAD);
        DUES.refused("setStart(-1)", x, () -> x.setStart(-1), BAD);
        DUES.refused("setSpeed(0, 1001)", x, () -> x.setSpeed(0, 1001), BAD);
        DUES.refused("setSpeed(0, -1001)", x, () -> x.setSpeed(0, -1001), BAD);
    }

    private static void changes() {
        DUES.says("Wheel", "There are at most 5 changes of the speed, each with a tick from 1 to 1000 and a speed from -1000 to 1000, "
            + "no two with the same tick: from this tick on the speed is that of the change (until the next one).");
        FlashWheelReader x = new FlashWheelReader();
        due("setSpeed(1, 1)", x.setSpeed(1, 1), 1);
        due("setSpeed(1000, -1000)", x.setSpeed(1000, -1000), 2);
        due("setSpeed(500, 1000)", x.setSpeed(500, 1000), 3);
        due("turn(501)", x.turn(501), (499 + 1000) % 12);
        due("setSpeed(500, 3), of the same tick", x.setSpeed(500, 3), 3);
        due("setSpeed(2, 0)", x.setSpeed(2, 0), 4);
        due("setSpeed(999, 4)", x.setSpeed(999, 4), 5);
        due("setSpeed(7, 7), a sixth one", x.setSpeed(7, 7), FULL);
        due("the changes", x.count(5), 5);
        int[][] turns = {{0, 0}, {1, 0}, {2, 1}, {3, 1}, {500, 1}, {501, 4}, {502, 7}, {999, 1498}, {1000, 1502}};
        for (int[] turn : turns) due("turn(" + turn[0] + ")", x.turn(turn[0]), turn[1] % 12);
    }

    private static void ticks() {
        DUES.says("Wheel", "Ticks are from 0 to 1000.");
        FlashWheelReader x = Dues.loaded("a.b*1");
        due("turn(0)", x.turn(0), 0);
        due("turn(1000)", x.turn(1000), 1);
        due("markAt(0, 2)", x.markAt(0, 2), 2);
        due("markAt(1000, 0)", x.markAt(1000, 0), 2);
        due("step(0, 1000)", x.step(0, 1000), 1);
        due("step(1000, 0)", x.step(1000, 0), -1);
        due("isSeen(0)", x.isSeen(0), 1);
        due("isSeen(1000)", x.isSeen(1000), 1);
        due("opening(0, 1), all ticks", x.opening(0, 1), 1001);
        for (int tick : new int[] {-1, 1001, MIN, MAX}) {
            due("turn(" + tick + ")", x.turn(tick), BAD);
            due("markAt(" + tick + ", 0)", x.markAt(tick, 0), BAD);
            due("step(" + tick + ", 0)", x.step(tick, 0), BAD);
            due("step(0, " + tick + ")", x.step(0, tick), BAD);
            due("isSeen(" + tick + ")", x.isSeen(tick), BAD);
            due("setSpeed(" + tick + ", 0)", x.setSpeed(tick, 0), BAD);
            due("dropChange(" + tick + ")", x.dropChange(tick), BAD);
            due("setFlash(" + tick + ", 1)", x.setFlash(tick, 1), BAD);
        }
        due("setFlash(1000, 1)", x.setFlash(1000, 1), 1);
        due("setSpeed(1000, 1)", x.setSpeed(1000, 1), 1);
        due("dropChange(1000)", x.dropChange(1000), 0);
    }

    private static void turnedWheel() {
        DUES.says("Wheel", "A wheel turned by d has at the place (p + d) modulo n what it had at p.");
        FlashWheelReader x = Dues.loaded("a.b.c");
        int[] marks = {1, 0, 2, 0, 3};
        for (int d = 0; d <= 11; d++) {
            x.setStart(d);
            for (int p = 0; p < 5; p++) due("place " + p + " turned by " + d, x.markAt(0, (p + d) % 5), marks[p]);
        }
    }

    private static void measure() {
        DUES.says("Wheel", "The measure of the wheel is the smallest number s from 1 to n such that the wheel turned by s is the same;");
        String[] texts = {".", "a", "..........", "c".repeat(60), "ababab", "abaab", "aab", "aabaab", "abcaba",
            "abaaba.abaaba.", "a.a.a.a.a.aa", "aabb", "abababababab", "a" + ".".repeat(59), "ab".repeat(30),
            (".".repeat(29) + "c").repeat(2), "a".repeat(59) + "b"};
        int[] measures = {1, 1, 1, 1, 2, 5, 3, 3, 6, 7, 12, 4, 2, 60, 2, 30, 60};
        for (int i = 0; i < texts.length; i++) due("measure of " + texts[i], Dues.loaded(texts[i]).count(2), measures[i]);
        for (int cells = 1; cells <= 5; cells++) {
            for (int wheel = 0; wheel < 1 << 2 * cells; wheel++) {
                String text = textOf(wheel, cells);
                int least = 1;
                while (!text.equals(text.substring(least) + text.substring(0, least))) least++;
                due("measure of " + text, Dues.loaded(text).count(2), least);
            }
        }
    }

    private static String textOf(int wheel, int cells) {
        StringBuilder text = new StringBuilder();
        for (int cell = 0; cell < cells; cell++) text.append(".abc".charAt(wheel >> 2 * cell & 3));
        return text.toString();
    }

    private static void divisor() {
        DUES.says("Wheel", "s divides n.");
        // It begins again after 5 cells, but 5 does not divide 12; so with 3 and 8, and with 2 and 5.
        due("measure where the end is cut off", Dues.loaded("aab.caab.caa").count(2), 12);
        due("measure of 8 cells", Dues.loaded("aabaabaa").count(2), 8);
        due("measure of 5 cells", Dues.loaded("a.a.a").count(2), 5);
        for (int n = 1; n <= 60; n++) {
            for (int s = 1; s <= n; s++) {
                if (n % s == 0) due("n " + n, Dues.loaded(("a" + ".".repeat(s - 1)).repeat(n / s)).count(2), s);
            }
        }
    }

    private static void initially() {
        DUES.says("Wheel", "Initially there are 12 cells, with the mark 1 at the cells 0, 3, 6 and 9, the start and the speed are 0, "
            + "and there are no changes.");
        FlashWheelReader x = new FlashWheelReader();
        due("n", x.count(0), 12);
        for (int place = 0; place < 12; place++) due("cell " + place, x.markAt(0, place), place % 3 == 0 ? 1 : 0);
        due("the start", x.count(3), 0);
        due("the speed", x.count(4), 0);
        due("the changes", x.count(5), 0);
        due("turn(1000)", x.turn(1000), 0);
    }

    private static void newObject() {
        DUES.says(1, "Creates a reader with everything as initially, without readings, with an empty text buffer;");
        FlashWheelReader x = new FlashWheelReader();
        int[] counts = {12, 4, 3, 0, 0, 0, 0, 1, 1001, 0, 100, 1, 1, 0, 0, 1, 0};
        for (int what = 0; what < counts.length; what++) due("count(" + what + ")", x.count(what), counts[what]);
        due("faultKind()", x.faultKind(), 0);
        due("reading(0, 0)", x.reading(0, 0), BAD);
        due("load() of the empty text", x.load(), -10);
        FlashWheelReader other = new FlashWheelReader();
        other.setMark(0, 3);
        other.type('a');
        due("a reader beside one that was changed", new FlashWheelReader().digest(), new FlashWheelReader().digest());
        due("its mark", new FlashWheelReader().markAt(0, 0), 1);
        due("its text", new FlashWheelReader().count(16), 0);
        DUES.says(1, "there are no remembered states.");
        due("count(17)", x.count(17), 0);
        due("undo()", x.undo(), STATE);
    }

    private static void setMark() {
        DUES.says(6, "Sets the mark of a cell.");
        FlashWheelReader x = new FlashWheelReader();
        x.setMark(5, 3);
        int[] marks = {1, 0, 0, 1, 0, 3, 1, 0, 0, 1, 0, 0};
        for (int cell = 0; cell < 12; cell++) due("cell " + cell, x.markAt(0, cell), marks[cell]);
        x.setStart(2);
        x.setMark(0, 2);
        due("cell 0, which is at the place 2", x.markAt(0, 2), 2);
        due("the place 0", x.markAt(0, 0), 0);
        DUES.says(6, "This is a change.");
        DUES.change("setMark(11, 2)", x, () -> x.setMark(11, 2), 0);
        DUES.change("setMark(3, 1), as it is", x, () -> x.setMark(3, 1), 1);
        DUES.says(6, "`cell`: the cell");
        due("setMark(0, 1), the first cell", x.setMark(0, 1), 2);
        due("setMark(11, 3), the last cell", x.setMark(11, 3), 2);
        FlashWheelReader greatest = Dues.loaded("a".repeat(60));
        due("setMark(59, 0), the last of 60", greatest.setMark(59, 0), 1);
        due("markAt(0, 59)", greatest.markAt(0, 59), 0);
        due("markAt(0, 58)", greatest.markAt(0, 58), 1);
        DUES.says(6, "`mark`: 0 to 3");
        for (int mark = 0; mark <= 3; mark++) {
            x.setMark(7, mark);
            due("cell 7, at the place 9", x.markAt(0, 9), mark);
        }
        due("setMark(7, -1)", x.setMark(7, -1), BAD);
        due("setMark(7, 4)", x.setMark(7, 4), BAD);
        DUES.says(6, "Returns the mark before;");
        int[] marksSet = {1, 0, 2, 2, 3, 0};
        for (int i = 1; i < marksSet.length; i++) {
            x.setMark(1, marksSet[i - 1]);
            due("setMark(1, " + marksSet[i] + ")", x.setMark(1, marksSet[i]), marksSet[i - 1]);
        }
    }

    private static void setMarkRefused() {
        DUES.says(6, "BAD if there is no such cell, or mark is out of range.");
        FlashWheelReader x = new FlashWheelReader();
        for (int cell : new int[] {-1, 12, 59, 60, MIN, MAX}) {
            DUES.refused("setMark(" + cell + ", 0)", x, () -> x.setMark(cell, 0), BAD);
        }
        for (int mark : new int[] {-1, 4, MIN, MAX}) {
            DUES.refused("setMark(0, " + mark + ")", x, () -> x.setMark(0, mark), BAD);
        }
        DUES.refused("setMark(12, 4)", x, () -> x.setMark(12, 4), BAD);
        Dues.load(x, "a.");
        DUES.refused("setMark(2, 1) of two cells", x, () -> x.setMark(2, 1), BAD);
        due("setMark(1, 1) of two cells", x.setMark(1, 1), 0);
        x.undo();
        x.undo();
        due("setMark(11, 1) of 12 cells again", x.setMark(11, 1), 0);
    }

    private static void setStart() {
        DUES.says(7, "Sets the start.");
        FlashWheelReader x = new FlashWheelReader();
        x.setStart(5);
        due("count(3)", x.count(3), 5);
        due("turn(0)", x.turn(0), 5);
        due("turn(1000)", x.turn(1000), 5);
        DUES.says(7, "This is a change.");
        DUES.change("setStart(7)", x, () -> x.setStart(7), 5);
        FlashWheelReader y = new FlashWheelReader();
        DUES.change("setStart(0), as it is", y, () -> y.setStart(0), 0);
        DUES.says(7, "`start`: 0 to 59");
        due("setStart(59)", x.setStart(59), 7);
        due("count(3)", x.count(3), 59);
        due("setStart(0)", x.setStart(0), 59);
        due("count(3)", x.count(3), 0);
        DUES.says(7, "Returns the start before;");
        due("setStart(31)", x.setStart(31), 0);
        due("setStart(31) again", x.setStart(31), 31);
        due("setStart(2)", x.setStart(2), 31);
        DUES.says(7, "BAD if start is out of range.");
        for (int start : new int[] {-1, 60, MIN, MAX}) {
            DUES.refused("setStart(" + start + ")", x, () -> x.setStart(start), BAD);
        }
    }

    private static void setSpeed() {
        DUES.says(8, "Sets the speed from a tick on: that of tick 0, or a change of the speed, in place of the one with the same tick, "
            + "if there is one.");
        FlashWheelReader x = new FlashWheelReader();
        x.setSpeed(0, 2);
        due("the speed of tick 0", x.count(4), 2);
        due("turn(3)", x.turn(3), 6);
        x.setSpeed(3, 1);
        due("the speed of tick 0, which stays", x.count(4), 2);
        due("turn(5)", x.turn(5), 8);
        x.setSpeed(3, -1);
        due("the changes, as one took the other's place", x.count(5), 1);
        due("turn(5)", x.turn(5), 4);
        x.setSpeed(0, 3);
        due("turn(5), with another speed of tick 0", x.turn(5), 7);
        // Before the change that is there, and behind it
        x.setSpeed(1, 5);
        x.setSpeed(4, 0);
        due("turn(1)", x.turn(1), 3);
        due("turn(3)", x.turn(3), 1);
        due("turn(4)", x.turn(4), 0);
        due("turn(9)", x.turn(9), 0);
        FlashWheelReader y = new FlashWheelReader();
        DUES.says(8, "This is a change.");
        DUES.change("setSpeed(0, 7)", y, () -> y.setSpeed(0, 7), 0);
        DUES.change("setSpeed(9, 7)", y, () -> y.setSpeed(9, 7), 1);
        DUES.change("setSpeed(5, 2), before the other one", y, () -> y.setSpeed(5, 2), 2);
        y.dropChange(5);
        DUES.change("setSpeed(9, 8) in its place", y, () -> y.setSpeed(9, 8), 1);
        DUES.change("setSpeed(9, 8), as it is", y, () -> y.setSpeed(9, 8), 1);
        DUES.change("setSpeed(0, 7), as it is", y, () -> y.setSpeed(0, 7), 1);
    }

    private static void setSpeedRefused() {
        FlashWheelReader x = new FlashWheelReader();
        DUES.says(8, "`tick`: 0 to 1000");
        due("setSpeed(0, 5)", x.setSpeed(0, 5), 0);
        due("setSpeed(1000, 5)", x.setSpeed(1000, 5), 1);
        due("setSpeed(1, 5)", x.setSpeed(1, 5), 2);
        due("setSpeed(-1, 5)", x.setSpeed(-1, 5), BAD);
        due("setSpeed(1001, 5)", x.setSpeed(1001, 5), BAD);
        DUES.says(8, "`speed`: -1000 to 1000");
        for (int tick = 0; tick <= 1; tick++) {
            x.setSpeed(tick, -1000);
            due("turn back of tick " + tick, x.turn(tick + 1), Math.floorMod(-1000 * (tick + 1), 12));
        }
        for (int tick = 0; tick <= 1; tick++) {
            x.setSpeed(tick, 1000);
            due("turn forward of tick " + tick, x.turn(tick + 1), 1000 * (tick + 1) % 12);
        }
        due("count(4)", x.count(4), 1000);
        DUES.says(8, "Returns the number of changes of the speed then;");
        due("setSpeed(2, 2), one more", x.setSpeed(2, 2), 3);
        due("setSpeed(2, 3), in its place", x.setSpeed(2, 3), 3);
        due("setSpeed(0, 3), of tick 0", x.setSpeed(0, 3), 3);
        due("setSpeed(700, 2), one more", x.setSpeed(700, 2), 4);
        due("count(5)", x.count(5), 4);
        DUES.says(8, "BAD if an argument is out of range;");
        for (int tick : new int[] {-1, 1001, MIN, MAX}) {
            DUES.refused("setSpeed(" + tick + ", 0)", x, () -> x.setSpeed(tick, 0), BAD);
        }
        for (int speed : new int[] {-1001, 1001, MIN, MAX}) {
            DUES.refused("setSpeed(0, " + speed + ")", x, () -> x.setSpeed(0, speed), BAD);
            DUES.refused("setSpeed(2, " + speed + ")", x, () -> x.setSpeed(2, speed), BAD);
            DUES.refused("setSpeed(9, " + speed + ")", x, () -> x.setSpeed(9, speed), BAD);
        }
    }

    private static void setSpeedFull() {
        DUES.says(8, "FULL if there are 5 others with ticks above 0.");
        FlashWheelReader x = new FlashWheelReader();
        for (int tick = 50; tick >= 10; tick -= 10) due("setSpeed(" + tick + ", 1)", x.setSpeed(tick, 1), 6 - tick / 10);
        for (int tick : new int[] {1, 5, 15, 49, 51, 1000}) {
            DUES.refused("a sixth change at " + tick, x, () -> x.setSpeed(tick, 1), FULL);
        }
        due("the same tick, as there are 4 others", x.setSpeed(30, -2), 5);
        due("the first one's tick", x.setSpeed(10, 1), 5);
        due("the last one's tick", x.setSpeed(50, 1), 5);
        // The speed of tick 0 is no change of the speed, so there is room for it: NOTES.md says why it is read so.
        due("tick 0", x.setSpeed(0, 3), 5);
        due("count(4)", x.count(4), 3);
        // 10 ticks with 3, 20 with 1, 10 with -2, 60 with 1
        due("turn(100)", x.turn(100), (30 + 20 - 20 + 60) % 12);
        due("dropChange(50)", x.dropChange(50), 4);
        due("setSpeed(5, 1), as there is room again", x.setSpeed(5, 1), 5);
        x.undo();
        due("setSpeed(6, 1), as there is room after undo()", x.setSpeed(6, 1), 5);
    }

    private static void dropChange() {
        FlashWheelReader x = new FlashWheelReader();
        x.setSpeed(3, 1);
        x.setSpeed(1, 2);
        x.setSpeed(2, 4);
        DUES.says(9, "Removes a change of the speed.");
        due("turn(6)", x.turn(6), 2 + 4 + 3);
        x.dropChange(2);
        due("turn(6) without the second one", x.turn(6), 2 * 2 + 3);
        x.dropChange(1);
        due("turn(6) without the first one", x.turn(6), 3);
        x.dropChange(3);
        due("turn(6) without the last one", x.turn(6), 0);
        DUES.says(9, "This is a change.");
        x.undo();
        DUES.change("dropChange(3)", x, () -> x.dropChange(3), 0);
        FlashWheelReader three = new FlashWheelReader();
        three.setSpeed(1, 2);
        three.setSpeed(2, 4);
        three.setSpeed(3, 1);
        DUES.change("dropChange(2), the middle one", three, () -> three.dropChange(2), 2);
        three.undo();
        DUES.change("dropChange(1), the first one", three, () -> three.dropChange(1), 2);
        three.undo();
        due("turn(1) after undo()", three.turn(1), 0);
        due("turn(2) after undo()", three.turn(2), 2);
        due("turn(3) after undo()", three.turn(3), 6);
        due("turn(4) after undo()", three.turn(4), 7);
        DUES.says(9, "`tick`: its tick, 1 to 1000 (the speed of tick 0 is none of them)");
        x.setSpeed(0, 7);
        x.setSpeed(1, 1);
        x.setSpeed(1000, 1);
        due("dropChange(0)", x.dropChange(0), BAD);
        due("count(4)", x.count(4), 7);
        due("dropChange(1000)", x.dropChange(1000), 1);
        due("dropChange(1)", x.dropChange(1), 0);
        due("dropChange(0)", x.dropChange(0), BAD);
        DUES.says(9, "Returns how many changes of the speed are left;");
        FlashWheelReader y = new FlashWheelReader();
        for (int tick = 1; tick <= 5; tick++) y.setSpeed(tick, tick);
        int[] order = {3, 1, 5, 4, 2};
        for (int i = 0; i < 5; i++) due("dropChange(" + order[i] + ")", y.dropChange(order[i]), 4 - i);
        due("count(5)", y.count(5), 0);
    }

    private static void dropChangeRefused() {
        DUES.says(9, "BAD if there is none with this tick.");
        FlashWheelReader x = new FlashWheelReader();
        DUES.refused("dropChange(1) of none", x, () -> x.dropChange(1), BAD);
        DUES.refused("dropChange(0) of none", x, () -> x.dropChange(0), BAD);
        for (int tick = 2; tick <= 10; tick += 2) x.setSpeed(tick, tick);
        for (int tick : new int[] {MIN, -1, 0, 1, 3, 9, 11, 1000, 1001, MAX}) {
            DUES.refused("dropChange(" + tick + ")", x, () -> x.dropChange(tick), BAD);
        }
        x.dropChange(10);
        DUES.refused("dropChange(10), which is dropped", x, () -> x.dropChange(10), BAD);
        x.dropChange(2);
        DUES.refused("dropChange(2), which is dropped", x, () -> x.dropChange(2), BAD);
        due("dropChange(4)", x.dropChange(4), 2);
    }

    private static void markAt() {
        DUES.says(10, "Returns the mark at a place.");
        FlashWheelReader x = Dues.loaded("abc.@1*1");
        for (int place = 0; place < 4; place++) {
            due("markAt(0, " + place + ")", x.markAt(0, place), "0123".charAt(place) - '0');
            due("markAt(2, " + place + ")", x.markAt(2, place), "2301".charAt(place) - '0');
        }
        DUES.says(10, "`tick`: 0 to 1000");
        due("markAt(0, 1)", x.markAt(0, 1), 1);
        due("markAt(1000, 1)", x.markAt(1000, 1), 1);
        due("markAt(-1, 1)", x.markAt(-1, 1), BAD);
        due("markAt(1001, 1)", x.markAt(1001, 1), BAD);
        DUES.says(10, "`place`: the place");
        due("markAt(1, 0), the first one", x.markAt(1, 0), 3);
        due("markAt(1, 3), the last one", x.markAt(1, 3), 2);
        FlashWheelReader greatest = Dues.loaded(".".repeat(59) + "b@59");
        due("the last cell of 60 is at 58", greatest.markAt(0, 58), 2);
        due("the place 59", greatest.markAt(0, 59), 0);
        DUES.says(10, "Returns the mark;");
        for (int mark = 1; mark <= 3; mark++) due("markAt(3, " + (mark - 1) + ")", x.markAt(3, mark - 1), mark);
        DUES.says(10, "0 if there is none;");
        due("markAt(3, 3)", x.markAt(3, 3), 0);
        due("markAt(0, 0) of an empty wheel", Dues.loaded(".").markAt(0, 0), 0);
        DUES.says(10, "BAD if tick is out of range, or there is no such place.");
        for (int tick : new int[] {-1, 1001, MIN, MAX}) {
            DUES.refused("markAt(" + tick + ", 0)", x, () -> x.markAt(tick, 0), BAD);
        }
        for (int place : new int[] {-1, 4, 11, 59, 60, MIN, MAX}) {
            DUES.refused("markAt(0, " + place + ")", x, () -> x.markAt(0, place), BAD);
        }
    }

    private static void turn() {
        FlashWheelReader x = new FlashWheelReader();
        x.setStart(5);
        x.setSpeed(0, -3);
        x.setSpeed(4, 2);
        DUES.says(11, "Returns the turn of a tick.");
        int[] turns = {5, 2, 11, 8, 5, 7, 9, 11, 1};
        for (int tick = 0; tick < turns.length; tick++) due("turn(" + tick + ")", x.turn(tick), turns[tick]);
        DUES.says(11, "`tick`: 0 to 1000");
        due("turn(0)", x.turn(0), 5);
        due("turn(1000)", x.turn(1000), (5 - 12 + 2 * 996) % 12);
        due("turn(-1)", x.turn(-1), BAD);
        due("turn(1001)", x.turn(1001), BAD);
        DUES.says(11, "Returns the turn modulo n;");
        x.setStart(59);
        due("turn(0), of 59", x.turn(0), 11);
        x.setSpeed(0, -1000);
        x.setSpeed(4, -1000);
        due("turn(1000), far back", x.turn(1000), Math.floorMod(59 - 1000000, 12));
        x.setSpeed(0, 1000);
        x.setSpeed(4, 1000);
        due("turn(1000), far on", x.turn(1000), (59 + 1000000) % 12);
        due("turn(3) of one cell", Dues.loaded("a@7*5").turn(3), 0);
        due("turn(1) of 60 cells", Dues.loaded("a".repeat(60) + "@59").turn(1), 59);
        due("turn(1) of 60 cells, on to 60", Dues.loaded("a".repeat(60) + "@59*1").turn(1), 0);
        DUES.says(11, "BAD if tick is out of range.");
        for (int tick : new int[] {-1, 1001, MIN, MAX}) {
            DUES.refused("turn(" + tick + ")", x, () -> x.turn(tick), BAD);
        }
    }

    private static void count() {
        DUES.says(33, "Returns a count.");
        FlashWheelReader x = new FlashWheelReader();
        due("count(0)", x.count(0), 12);
        x.type('a');
        x.load();
        due("count(0) of another wheel", x.count(0), 1);
        DUES.says(33, "`what`: 0 for n, 1 for the marks (cells with one), 2 for the measure, 3 for the start, 4 for the speed of tick 0, "
            + "5 for the changes of the speed, 6 for the first flash, 7 for the period, 8 for the flashes, 9 for the readings, "
            + "10 for the limit, 11 for m, 12 for the set of open cells, 13 for the start of the disc, 14 for its speed, "
            + "15 for the openings, 16 for the characters of the text buffer, 17 for the remembered states");
        Dues.load(x, "abc.ab..abc.ab..@31*-12");
        x.setSpeed(10, 3);
        x.setSpeed(11, 4);
        x.setFlash(7, 9);
        x.read(5, -2);
        // The cell of tick t is t + 1 modulo 5, and 0, 1 and 3 are open: tick 0, then 200 times the ticks 2, and 4 with 5.
        x.setDisc(5, 11);
        x.turnDisc(29, -1);
        int[] counts = {16, 10, 8, 31, -12, 2, 7, 9, 111, 1, 100, 5, 11, 29, -1, 401, 23, 8};
        for (int what = 0; what < counts.length; what++) due("count(" + what + ")", x.count(what), counts[what]);
        x.undo();
        due("count(17) after undo", x.count(17), 7);
        due("count(13) after undo", x.count(13), 0);
    }

    private static void countAll() {
        DUES.says(33, "Returns the count;");
        FlashWheelReader empty = Dues.loaded(".".repeat(60));
        due("count(1) of no marks", empty.count(1), 0);
        due("count(2) of no marks", empty.count(2), 1);
        due("count(16)", empty.count(16), 60);
        due("count(17)", empty.count(17), 1);
        empty.setDisc(30, 0);
        due("count(11)", empty.count(11), 30);
        due("count(12) of a closed disc", empty.count(12), 0);
        due("count(15) of a closed disc", empty.count(15), 0);
        empty.setDisc(30, (1 << 30) - 1);
        due("count(12) of an open disc", empty.count(12), (1 << 30) - 1);
        due("count(1) of 60 marks", Dues.loaded("abc".repeat(20)).count(1), 60);
        DUES.says(33, "BAD if what is out of range.");
        for (int what : new int[] {-1, 18, MIN, MAX}) {
            DUES.refused("count(" + what + ")", empty, () -> empty.count(what), BAD);
        }
    }

    private static void due(String call, long got, long want) {
        DUES.due(call, got, want);
    }
}
