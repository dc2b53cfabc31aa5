/** The section "Disc", and promises 27 to 31: the disc, its openings and what is smeared in them. */
public final class DiscTest {
    private static final int BAD = FlashWheelReader.BAD, NONE = FlashWheelReader.NONE;
    private static final int MIN = Integer.MIN_VALUE, MAX = Integer.MAX_VALUE;
    private static final Dues DUES = new Dues("DiscTest");

    public static void main(String[] args) {
        ask();
        DUES.end();
    }

    static void ask() {
        cells();
        beforeTheEye();
        initially();
        longest();
        numbers();
        smearOfOpening();
        setDisc();
        turnDisc();
        isSeen();
        opening();
        openingRefused();
        smear();
        smearRefused();
    }

    private static void cells() {
        DUES.says("Disc", "Before the wheel there is a disc of m cells, 1 to 30, numbered from 0, each open or closed, with a start, 0 to 29, "
            + "and a speed, -1000 to 1000, that does not change.");
        FlashWheelReader x = new FlashWheelReader();
        due("setDisc(1, 0)", x.setDisc(1, 0), 0);
        due("setDisc(30, 0)", x.setDisc(30, 0), 0);
        due("setDisc(30, 2^29), the last cell", x.setDisc(30, 1 << 29), 1);
        due("setDisc(0, 0)", x.setDisc(0, 0), BAD);
        due("setDisc(31, 0)", x.setDisc(31, 0), BAD);
        due("turnDisc(0, -1000)", x.turnDisc(0, -1000), 0);
        due("turnDisc(29, 1000)", x.turnDisc(29, 1000), -1000);
        due("turnDisc(30, 0)", x.turnDisc(30, 0), BAD);
        due("turnDisc(-1, 0)", x.turnDisc(-1, 0), BAD);
        due("turnDisc(0, 1001)", x.turnDisc(0, 1001), BAD);
        due("turnDisc(0, -1001)", x.turnDisc(0, -1001), BAD);
        x.setDisc(7, 1);
        x.turnDisc(0, 1);
        x.setSpeed(0, 5);
        x.setSpeed(3, 9);
        for (int tick = 0; tick <= 21; tick++) due("isSeen(" + tick + "), as that speed stays", x.isSeen(tick), tick % 7 == 0 ? 1 : 0);
    }

    private static void beforeTheEye() {
        DUES.says("Disc", "At tick t its cell (m - (start + speed * t) modulo m) modulo m is before the eye;");
        // With the start 6 and the speed 1 these are 4, 3, 2, 1, 0 and so on, with the speed -2 they are 4, 1, 3, 0, 2
        int[] forward = {4, 3, 2, 1, 0, 4, 3};
        int[] back = {4, 1, 3, 0, 2, 4, 1};
        for (int cell = 0; cell < 5; cell++) {
            FlashWheelReader x = new FlashWheelReader();
            x.setDisc(5, 1 << cell);
            x.turnDisc(6, 1);
            for (int tick = 0; tick < 7; tick++) due("cell " + cell + " at " + tick, x.isSeen(tick), forward[tick] == cell ? 1 : 0);
            x.turnDisc(6, -2);
            for (int tick = 0; tick < 7; tick++) due("cell " + cell + " back at " + tick, x.isSeen(tick), back[tick] == cell ? 1 : 0);
            // 29 + 1000000 is 4 modulo 5, and 29 - 999000 too
            x.turnDisc(29, 1000);
            due("cell " + cell + " far on", x.isSeen(1000), cell == 1 ? 1 : 0);
            x.turnDisc(29, -1000);
            due("cell " + cell + " far back", x.isSeen(999), cell == 1 ? 1 : 0);
            // Where the remainder is 0, the cell is 0 and not m
            x.turnDisc(25, 0);
            due("cell " + cell + " of the remainder 0", x.isSeen(7), cell == 0 ? 1 : 0);
        }
        DUES.says("Disc", "the wheel is seen at this tick if that cell is open.");
        FlashWheelReader x = new FlashWheelReader();
        x.setDisc(5, 5);
        x.turnDisc(6, 1);
        int[] seen = {0, 0, 1, 0, 1, 0, 0, 1, 0, 1};
        for (int tick = 0; tick < seen.length; tick++) due("isSeen(" + tick + ")", x.isSeen(tick), seen[tick]);
        x.setDisc(5, 0);
        for (int tick = 0; tick < 5; tick++) due("isSeen(" + tick + ") of a closed disc", x.isSeen(tick), 0);
        x.setDisc(5, 31);
        for (int tick = 0; tick < 5; tick++) due("isSeen(" + tick + ") of an open disc", x.isSeen(tick), 1);
        x.setDisc(30, 1 << 29);
        x.turnDisc(1, 0);
        due("the cell 29 of 30", x.isSeen(0), 1);
    }

    private static void initially() {
        DUES.says("Disc", "Initially m is 1, the cell is open, start and speed are 0.");
        FlashWheelReader x = new FlashWheelReader();
        due("m", x.count(11), 1);
        due("the open cells", x.count(12), 1);
        due("the start", x.count(13), 0);
        due("the speed", x.count(14), 0);
        due("isSeen(0)", x.isSeen(0), 1);
        due("isSeen(1000)", x.isSeen(1000), 1);
    }

    private static void longest() {
        DUES.says("Disc", "An opening is a sequence of ticks, as long as possible within 0 to 1000, that follow one another and at all of which "
            + "the wheel is seen;");
        FlashWheelReader x = new FlashWheelReader();
        openings(x, "open all the time", 1, 0, 1001, 0, 1001);
        x.setDisc(2, 1);
        x.turnDisc(0, 1);
        openings(x, "each other tick", 501, 0, 1, 1000, 1);
        x.turnDisc(1, 1);
        openings(x, "the others", 500, 1, 1, 999, 1);
        x.setDisc(4, 3);
        x.turnDisc(0, -1);
        // Seen at 0 and 1, 4 and 5, ..; the last one is cut by tick 1000
        openings(x, "cut at the end", 251, 0, 2, 1000, 1);
        x.turnDisc(3, -1);
        // Seen at 0, 3 and 4, ..: the first one is cut by tick 0
        openings(x, "cut at the beginning", 251, 0, 1, 999, 2);
        x.setDisc(30, (1 << 30) - 2);
        x.turnDisc(0, -1);
        // Not seen at 0, 30, .., 990
        openings(x, "29 of 30", 34, 1, 29, 991, 10);
        x.setDisc(1, 0);
        due("openings of a closed disc", x.count(15), 0);
        due("opening(0, 0) of a closed disc", x.opening(0, 0), NONE);
    }

    private static void openings(FlashWheelReader x, String name, int number, int first, int ticks, int last, int lastTicks) {
        due("count(15), " + name, x.count(15), number);
        due("opening(0, 0), " + name, x.opening(0, 0), first);
        due("opening(0, 1), " + name, x.opening(0, 1), ticks);
        due("the first tick of the last one, " + name, x.opening(number - 1, 0), last);
        due("the ticks of the last one, " + name, x.opening(number - 1, 1), lastTicks);
        due("opening(" + number + ", 0), " + name, x.opening(number, 0), NONE);
    }

    private static void numbers() {
        DUES.says("Disc", "openings are numbered from 0 by their ticks.");
        FlashWheelReader x = new FlashWheelReader();
        x.setDisc(6, 1 + 2 + 8);
        x.turnDisc(0, -1);
        // Open at 0 and 1, at 3, at 6 and 7, at 9, ..; 1000 is 4 modulo 6.
        due("count(15)", x.count(15), 334);
        int[] firsts = {0, 3, 6, 9};
        for (int opening = 0; opening < firsts.length; opening++) {
            due("opening(" + opening + ", 0)", x.opening(opening, 0), firsts[opening]);
            due("opening(" + opening + ", 1)", x.opening(opening, 1), opening % 2 == 0 ? 2 : 1);
        }
        due("opening(333, 0)", x.opening(333, 0), 999);
        due("opening(334, 0)", x.opening(334, 0), NONE);
        due("opening(-1, 0)", x.opening(-1, 0), BAD);
    }

    private static void smearOfOpening() {
        DUES.says("Disc", "The smear of an opening is told by places: the set of the marks, as a bit mask (bit k - 1 for the mark k), "
            + "that are at this place at some tick of the opening.");
        FlashWheelReader x = Dues.loaded("abc...*1");
        x.setDisc(7, 1 + 2);
        x.turnDisc(0, -1);
        // At the ticks 0 and 1: abc... and .abc.., at 7 and 8 the same, one place on
        int[] smears = {1, 3, 6, 4, 0, 0};
        for (int place = 0; place < 6; place++) {
            due("smear(0, " + place + ")", x.smear(0, place), smears[place]);
            due("smear(1, " + place + ")", x.smear(1, place), smears[(place + 5) % 6]);
        }
        x.setDisc(7, 1);
        int[] one = {1, 2, 4, 0, 0, 0};
        for (int place = 0; place < 6; place++) due("smear(0, " + place + ") of one tick", x.smear(0, place), one[place]);
        x.setDisc(1, 1);
        for (int place = 0; place < 6; place++) due("smear(0, " + place + ") of all ticks", x.smear(0, place), 7);
        Dues.load(x, "a" + ".".repeat(59) + "*1");
        for (int place = 0; place < 60; place++) due("smear(0, " + place + ") of 60 places", x.smear(0, place), 1);
    }

    private static void setDisc() {
        FlashWheelReader x = new FlashWheelReader();
        DUES.says(27, "Sets the cells of the disc.");
        x.turnDisc(7, 3);
        x.setDisc(5, 9);
        due("count(11)", x.count(11), 5);
        due("count(12)", x.count(12), 9);
        due("the start, which stays", x.count(13), 7);
        due("the speed, which stays", x.count(14), 3);
        DUES.says(27, "This is a change.");
        DUES.change("setDisc(6, 9)", x, () -> x.setDisc(6, 9), 2);
        DUES.change("setDisc(6, 7)", x, () -> x.setDisc(6, 7), 3);
        DUES.change("setDisc(6, 7), as it is", x, () -> x.setDisc(6, 7), 3);
        DUES.says(27, "`m`: 1 to 30");
        due("setDisc(1, 1)", x.setDisc(1, 1), 1);
        due("count(11)", x.count(11), 1);
        due("setDisc(30, 1)", x.setDisc(30, 1), 1);
        due("count(11)", x.count(11), 30);
        DUES.says(27, "`open`: the set of the open cells, as a bit mask, 0 to 2 to the power of m, minus 1");
        FlashWheelReader y = new FlashWheelReader();
        for (int m = 1; m <= 30; m++) {
            int all = (int) ((1L << m) - 1);
            due("setDisc(" + m + ", " + all + ")", y.setDisc(m, all), m);
            due("count(12)", y.count(12), all);
            due("setDisc(" + m + ", 0)", y.setDisc(m, 0), 0);
            due("setDisc(" + m + ", " + (all + 1) + ")", y.setDisc(m, all + 1), BAD);
            due("setDisc(" + m + ", -1)", y.setDisc(m, -1), BAD);
        }
        DUES.says(27, "Returns how many cells are open;");
        due("setDisc(4, 0)", y.setDisc(4, 0), 0);
        due("setDisc(4, 8)", y.setDisc(4, 8), 1);
        due("setDisc(4, 15)", y.setDisc(4, 15), 4);
        due("setDisc(30, all)", y.setDisc(30, (1 << 30) - 1), 30);
        DUES.says(27, "BAD if an argument is out of range.");
        for (int m : new int[] {0, -1, 31, 32, 33, 64, MIN, MAX}) {
            DUES.refused("setDisc(" + m + ", 0)", y, () -> y.setDisc(m, 0), BAD);
        }
        for (int open : new int[] {-1, 16, MIN, MAX}) {
            DUES.refused("setDisc(4, " + open + ")", y, () -> y.setDisc(4, open), BAD);
        }
        DUES.refused("setDisc(1, 2)", y, () -> y.setDisc(1, 2), BAD);
        DUES.refused("setDisc(30, 2^30)", y, () -> y.setDisc(30, 1 << 30), BAD);
        DUES.refused("setDisc(30, MIN)", y, () -> y.setDisc(30, MIN), BAD);
    }

    private static void turnDisc() {
        FlashWheelReader x = new FlashWheelReader();
        DUES.says(28, "Sets the start and the speed of the disc.");
        x.setDisc(4, 3);
        x.turnDisc(7, 3);
        due("count(13)", x.count(13), 7);
        due("count(14)", x.count(14), 3);
        due("m, which stays", x.count(11), 4);
        due("the open cells, which stay", x.count(12), 3);
        DUES.says(28, "This is a change.");
        DUES.change("turnDisc(8, 3)", x, () -> x.turnDisc(8, 3), 3);
        x.undo();
        DUES.change("turnDisc(7, 3), as it is", x, () -> x.turnDisc(7, 3), 3);
        DUES.says(28, "`start`: 0 to 29");
        due("turnDisc(0, 3)", x.turnDisc(0, 3), 3);
        due("count(13)", x.count(13), 0);
        due("turnDisc(29, 3)", x.turnDisc(29, 3), 3);
        due("count(13), which is not taken modulo m", x.count(13), 29);
        DUES.says(28, "`speed`: -1000 to 1000");
        due("turnDisc(29, -1000)", x.turnDisc(29, -1000), 3);
        due("count(14)", x.count(14), -1000);
        due("turnDisc(29, 1000)", x.turnDisc(29, 1000), -1000);
        due("count(14)", x.count(14), 1000);
        DUES.says(28, "Returns the speed before;");
        due("turnDisc(1, 5)", x.turnDisc(1, 5), 1000);
        due("turnDisc(2, 5)", x.turnDisc(2, 5), 5);
        x.undo();
        x.undo();
        due("turnDisc(3, 6) after undo()", x.turnDisc(3, 6), 1000);
        DUES.says(28, "BAD if an argument is out of range.");
        for (int start : new int[] {-1, 30, MIN, MAX}) {
            DUES.refused("turnDisc(" + start + ", 0)", x, () -> x.turnDisc(start, 0), BAD);
        }
        for (int speed : new int[] {-1001, 1001, MIN, MAX}) {
            DUES.refused("turnDisc(0, " + speed + ")", x, () -> x.turnDisc(0, speed), BAD);
        }
    }

    private static void isSeen() {
        FlashWheelReader x = new FlashWheelReader();
        x.setDisc(5, 5);
        x.turnDisc(0, -1);
        DUES.says(29, "Tells whether the wheel is seen through the disc.");
        int[] seen = {1, 0, 1, 0, 0, 1, 0, 1, 0, 0};
        for (int tick = 0; tick < seen.length; tick++) due("isSeen(" + tick + ")", x.isSeen(tick), seen[tick]);
        DUES.says(29, "`tick`: 0 to 1000");
        due("isSeen(0)", x.isSeen(0), 1);
        due("isSeen(999)", x.isSeen(999), 0);
        due("isSeen(1000)", x.isSeen(1000), 1);
        due("isSeen(-1)", x.isSeen(-1), BAD);
        due("isSeen(1001)", x.isSeen(1001), BAD);
        DUES.says(29, "Returns 1 if it is, else 0;");
        x.setDisc(30, 1 << 29);
        due("isSeen(29) of the last cell", x.isSeen(29), 1);
        due("isSeen(28) of the last cell but one", x.isSeen(28), 0);
        DUES.says(29, "BAD if tick is out of range.");
        for (int tick : new int[] {-1, 1001, MIN, MAX}) {
            DUES.refused("isSeen(" + tick + ")", x, () -> x.isSeen(tick), BAD);
        }
    }

    private static void opening() {
        FlashWheelReader x = Dues.loaded("abc...*1");
        x.setDisc(7, 1 + 2);
        x.turnDisc(0, -1);
        DUES.says(30, "Returns a property of an opening.");
        int[] properties = {7, 2, 2, 0};
        for (int what = 0; what <= 3; what++) due("opening(1, " + what + ")", x.opening(1, what), properties[what]);
        DUES.says(30, "`opening`: its number");
        due("opening(0, 0), the first one", x.opening(0, 0), 0);
        due("opening(142, 0), the last one", x.opening(142, 0), 994);
        due("opening(143, 0)", x.opening(143, 0), NONE);
        due("opening(-1, 0)", x.opening(-1, 0), BAD);
        DUES.says(30, "`what`: 0 for its first tick, 1 for its number of ticks, 2 for how many places have a smear with more than one mark, "
            + "3 for 1 if all pictures of its ticks are the same and 0 if not");
        x.setDisc(7, 1 + 2 + 4);
        opening(x, "three ticks", 0, 3, 3, 0);
        x.setDisc(7, 1);
        opening(x, "one tick", 0, 1, 0, 1);
        x.setDisc(7, 4);
        opening(x, "one tick, a later one", 2, 1, 0, 1);
        x.setDisc(7, 127);
        opening(x, "all ticks", 0, 1001, 6, 0);
        x.setDisc(7, 1 + 2);
        Dues.load(x, "abab*2");
        opening(x, "pictures that are the same", 0, 2, 0, 1);
        x.setSpeed(0, 1);
        opening(x, "pictures that are not", 0, 2, 4, 0);
        Dues.load(x, "a.*1");
        opening(x, "one mark, at other places", 0, 2, 0, 0);
        Dues.load(x, "..*1");
        opening(x, "no marks", 0, 2, 0, 1);
        // The same picture at the ticks 0 and 2, but not at 1
        Dues.load(x, "a.*1");
        x.setDisc(7, 1 + 2 + 4);
        opening(x, "the first and the last picture the same", 0, 3, 0, 0);
        x.setDisc(1, 1);
        Dues.load(x, "ab");
        x.setSpeed(999, 1);
        opening(x, "another picture at the last tick alone", 0, 1001, 2, 0);
        DUES.says(30, "Returns the property;");
        Dues.load(x, "a".repeat(30) + "b".repeat(30) + "*1");
        opening(x, "60 places that are smeared", 0, 1001, 60, 0);
    }

    private static void opening(FlashWheelReader x, String name, int first, int ticks, int smeared, int same) {
        due("opening(0, 0), " + name, x.opening(0, 0), first);
        due("opening(0, 1), " + name, x.opening(0, 1), ticks);
        due("opening(0, 2), " + name, x.opening(0, 2), smeared);
        due("opening(0, 3), " + name, x.opening(0, 3), same);
    }

    private static void openingRefused() {
        FlashWheelReader x = new FlashWheelReader();
        DUES.says(30, "NONE if there are not so many openings;");
        for (int what = 0; what <= 3; what++) {
            due("opening(1, " + what + ") of one", x.opening(1, what), NONE);
            due("opening(MAX, " + what + ") of one", x.opening(MAX, what), NONE);
        }
        x.setDisc(3, 0);
        for (int what = 0; what <= 3; what++) due("opening(0, " + what + ") of none", x.opening(0, what), NONE);
        x.setDisc(2, 1);
        x.turnDisc(0, 1);
        due("opening(500, 0) of 501", x.opening(500, 0), 1000);
        due("opening(501, 0) of 501", x.opening(501, 0), NONE);
        DUES.says(30, "BAD if opening is negative or what is out of range.");
        for (int opening : new int[] {-1, MIN}) {
            for (int what = 0; what <= 3; what++) {
                int property = what;
                DUES.refused("opening(" + opening + ", " + what + ")", x, () -> x.opening(opening, property), BAD);
            }
        }
        for (int what : new int[] {-1, 4, MIN, MAX}) {
            DUES.refused("opening(0, " + what + ")", x, () -> x.opening(0, what), BAD);
            DUES.refused("opening(501, " + what + ") where there are not so many", x, () -> x.opening(501, what), BAD);
        }
    }

    private static void smear() {
        FlashWheelReader x = Dues.loaded("abc...*1");
        x.setDisc(7, 1 + 2);
        x.turnDisc(0, -1);
        DUES.says(31, "Returns the smear of an opening at a place.");
        due("smear(0, 1)", x.smear(0, 1), 3);
        due("smear(1, 2)", x.smear(1, 2), 3);
        DUES.says(31, "`opening`: its number");
        // The last one is at the ticks 994 and 995, turned by 4 and 5.
        due("smear(142, 0), the last one", x.smear(142, 0), 6);
        due("smear(143, 0)", x.smear(143, 0), NONE);
        due("smear(-1, 0)", x.smear(-1, 0), BAD);
        DUES.says(31, "`place`: the place");
        due("smear(0, 0), the first one", x.smear(0, 0), 1);
        due("smear(142, 5), the last one", x.smear(142, 5), 3);
        due("smear(0, -1)", x.smear(0, -1), BAD);
        due("smear(0, 6)", x.smear(0, 6), BAD);
        DUES.says(31, "Returns the set of the marks;");
        x.setDisc(7, 1 + 2 + 4);
        int[] smears = {1, 3, 7, 6, 4, 0};
        for (int place = 0; place < 6; place++) due("smear(0, " + place + ")", x.smear(0, place), smears[place]);
        Dues.load(x, "a.c.*2");
        due("smear(0, 0) of the marks 1 and 3", x.smear(0, 0), 5);
        due("smear(0, 1) of none", x.smear(0, 1), 0);
    }

    private static void smearRefused() {
        FlashWheelReader x = new FlashWheelReader();
        DUES.says(31, "NONE if there are not so many openings;");
        due("smear(1, 0) of one", x.smear(1, 0), NONE);
        due("smear(MAX, 11) of one", x.smear(MAX, 11), NONE);
        x.setDisc(1, 0);
        due("smear(0, 0) of none", x.smear(0, 0), NONE);
        DUES.says(31, "BAD if opening is negative, or there is no such place.");
        DUES.refused("smear(0, 12) of none", x, () -> x.smear(0, 12), BAD);
        x.undo();
        for (int opening : new int[] {-1, MIN}) {
            DUES.refused("smear(" + opening + ", 0)", x, () -> x.smear(opening, 0), BAD);
        }
        for (int place : new int[] {-1, 12, 59, 60, MIN, MAX}) {
            DUES.refused("smear(0, " + place + ")", x, () -> x.smear(0, place), BAD);
            DUES.refused("smear(1, " + place + ") where there are not so many", x, () -> x.smear(1, place), BAD);
        }
    }

    private static void due(String call, long got, long want) {
        DUES.due(call, got, want);
    }
}
