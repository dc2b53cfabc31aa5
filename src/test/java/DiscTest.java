/** Promises 27 to 31: the disc, its openings and what is smeared in them. */
public final class DiscTest {
    private static final int BAD = FlashWheelReader.BAD, NONE = FlashWheelReader.NONE;
    private static final Dues DUES = new Dues("DiscTest");

    public static void main(String[] args) {
        cells();
        turning();
        seeing();
        openings();
        edges();
        smears();
        DUES.end();
    }

    private static void cells() {
        FlashWheelReader x = new FlashWheelReader();
        due("setDisc(1, 0)", x.setDisc(1, 0), 0);
        due("setDisc(1, 1)", x.setDisc(1, 1), 1);
        due("setDisc(1, 2)", x.setDisc(1, 2), BAD);
        due("setDisc(4, 15)", x.setDisc(4, 15), 4);
        due("setDisc(4, 16)", x.setDisc(4, 16), BAD);
        due("setDisc(4, -1)", x.setDisc(4, -1), BAD);
        due("setDisc(0, 0)", x.setDisc(0, 0), BAD);
        due("setDisc(-1, 0)", x.setDisc(-1, 0), BAD);
        due("setDisc(31, 0)", x.setDisc(31, 0), BAD);
        due("setDisc(32, 0)", x.setDisc(32, 0), BAD);
        due("setDisc(30, 2^30 - 1)", x.setDisc(30, (1 << 30) - 1), 30);
        due("setDisc(30, 2^30)", x.setDisc(30, 1 << 30), BAD);
        due("setDisc(30, MIN)", x.setDisc(30, Integer.MIN_VALUE), BAD);
        due("setDisc(5, 9)", x.setDisc(5, 9), 2);
        due("count(11)", x.count(11), 5);
        due("count(12)", x.count(12), 9);
        due("count(17)", x.count(17), 5);
        due("undo()", x.undo(), 4);
        due("count(11) after undo", x.count(11), 30);
        due("count(12) after undo", x.count(12), (1 << 30) - 1);
    }

    private static void turning() {
        FlashWheelReader x = new FlashWheelReader();
        due("turnDisc(29, 1000)", x.turnDisc(29, 1000), 0);
        due("turnDisc(0, -1000)", x.turnDisc(0, -1000), 1000);
        due("turnDisc(7, 3)", x.turnDisc(7, 3), -1000);
        due("turnDisc(-1, 0)", x.turnDisc(-1, 0), BAD);
        due("turnDisc(30, 0)", x.turnDisc(30, 0), BAD);
        due("turnDisc(0, 1001)", x.turnDisc(0, 1001), BAD);
        due("turnDisc(0, -1001)", x.turnDisc(0, -1001), BAD);
        due("count(13)", x.count(13), 7);
        due("count(14)", x.count(14), 3);
        due("setDisc(4, 3)", x.setDisc(4, 3), 2);
        due("count(13) stays", x.count(13), 7);
        due("count(14) stays", x.count(14), 3);
        due("count(17)", x.count(17), 4);
        x.undo();
        due("undo()", x.undo(), 2);
        due("count(13) after undo", x.count(13), 0);
        due("count(14) after undo", x.count(14), -1000);
    }

    private static void seeing() {
        FlashWheelReader x = new FlashWheelReader();
        x.setDisc(5, 5);
        x.turnDisc(6, 1);
        // The cells before the eye are 4, 3, 2, 1, 0, and again; 0 and 2 are open.
        int[] seen = {0, 0, 1, 0, 1, 0, 0, 1, 0, 1};
        for (int tick = 0; tick < seen.length; tick++) due("isSeen(" + tick + ")", x.isSeen(tick), seen[tick]);
        due("isSeen(1000)", x.isSeen(1000), 0);
        x.turnDisc(0, -1);
        int[] back = {1, 0, 1, 0, 0};
        for (int tick = 0; tick < back.length; tick++) due("isSeen(" + tick + ") back", x.isSeen(tick), back[tick]);
        due("isSeen(-1)", x.isSeen(-1), BAD);
        due("isSeen(1001)", x.isSeen(1001), BAD);
        x.turnDisc(29, -1000);
        due("isSeen(1000) far back", x.isSeen(1000), 0);
        x.turnDisc(3, 1000);
        due("isSeen(1000) far forward", x.isSeen(1000), 1);
        x.setDisc(1, 0);
        due("isSeen(0) of a closed disc", x.isSeen(0), 0);
    }

    private static void openings() {
        FlashWheelReader x = new FlashWheelReader();
        x.setDisc(6, 1 + 2 + 8);
        x.turnDisc(0, -1);
        // Open at 0 and 1, at 3, at 6 and 7, at 9, ..; 1000 is 4 modulo 6.
        due("count(15)", x.count(15), 334);
        int[] firsts = {0, 3, 6, 9};
        for (int opening = 0; opening < firsts.length; opening++) {
            due("opening(" + opening + ", 0)", x.opening(opening, 0), firsts[opening]);
            due("opening(" + opening + ", 1)", x.opening(opening, 1), opening % 2 == 0 ? 2 : 1);
            due("opening(" + opening + ", 2)", x.opening(opening, 2), 0);
            due("opening(" + opening + ", 3)", x.opening(opening, 3), 1);
        }
        due("opening(333, 0)", x.opening(333, 0), 999);
        due("opening(334, 0)", x.opening(334, 0), NONE);
        due("opening(334, 3)", x.opening(334, 3), NONE);
        due("opening(MAX, 0)", x.opening(Integer.MAX_VALUE, 0), NONE);
        due("opening(334, 4)", x.opening(334, 4), BAD);
        due("opening(-1, 0)", x.opening(-1, 0), BAD);
        due("opening(0, -1)", x.opening(0, -1), BAD);
        due("opening(0, 4)", x.opening(0, 4), BAD);
    }

    private static void edges() {
        FlashWheelReader x = new FlashWheelReader();
        due("opening(0, 1), open all the time", x.opening(0, 1), 1001);
        due("opening(1, 0), open all the time", x.opening(1, 0), NONE);
        x.setDisc(2, 1);
        x.turnDisc(0, 1);
        due("count(15) of each other tick", x.count(15), 501);
        due("opening(500, 0)", x.opening(500, 0), 1000);
        due("opening(500, 1), cut by the last tick", x.opening(500, 1), 1);
        x.turnDisc(1, 1);
        due("count(15) of the others", x.count(15), 500);
        due("opening(0, 0) of the others", x.opening(0, 0), 1);
        x.setDisc(1, 0);
        due("count(15) of a closed disc", x.count(15), 0);
        due("opening(0, 0) of a closed disc", x.opening(0, 0), NONE);
        due("smear(0, 0) of a closed disc", x.smear(0, 0), NONE);
        due("smear(0, 12) of a closed disc", x.smear(0, 12), BAD);
    }

    private static void smears() {
        FlashWheelReader x = new FlashWheelReader();
        Dues.load(x, "abc...*1");
        x.setDisc(7, 1 + 2);
        x.turnDisc(0, -1);
        // At the ticks 0 and 1: abc... and .abc..
        int[] smears = {1, 3, 6, 4, 0, 0};
        for (int place = 0; place < 6; place++) due("smear(0, " + place + ")", x.smear(0, place), smears[place]);
        // At the ticks 7 and 8: the same, one place on.
        for (int place = 0; place < 6; place++) due("smear(1, " + place + ")", x.smear(1, place), smears[(place + 5) % 6]);
        due("opening(0, 2)", x.opening(0, 2), 2);
        due("opening(0, 3)", x.opening(0, 3), 0);
        due("smear(-1, 0)", x.smear(-1, 0), BAD);
        due("smear(0, -1)", x.smear(0, -1), BAD);
        due("smear(0, 6)", x.smear(0, 6), BAD);
        // At the ticks 994 and 995, turned by 4 and 5
        due("smear(142, 0)", x.smear(142, 0), 6);
        due("smear(143, 0)", x.smear(143, 0), NONE);
        due("smear(MAX, 0)", x.smear(Integer.MAX_VALUE, 0), NONE);
        x.setDisc(7, 1 + 2 + 4);
        due("smear(0, 2) of three", x.smear(0, 2), 7);
        due("opening(0, 2) of three", x.opening(0, 2), 3);
        Dues.load(x, "abab*2");
        due("opening(0, 3), as the pictures are the same", x.opening(0, 3), 1);
        due("opening(0, 2), as the pictures are the same", x.opening(0, 2), 0);
        x.setSpeed(0, 1);
        due("opening(0, 3), as they are not", x.opening(0, 3), 0);
        due("opening(0, 2), as they are not", x.opening(0, 2), 4);
        Dues.load(x, "a.*1");
        due("opening(0, 2) of one mark", x.opening(0, 2), 0);
        due("opening(0, 3) of one mark", x.opening(0, 3), 0);
        due("smear(0, 0) of one mark", x.smear(0, 0), 1);
    }

    private static void due(String call, long got, long want) {
        DUES.due(call, got, want);
    }
}
