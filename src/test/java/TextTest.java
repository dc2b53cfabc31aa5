/** The section "Text", and promises 2 to 5: the text buffer, and how it is read as a wheel. */
public final class TextTest {
    private static final int BAD = FlashWheelReader.BAD, STATE = FlashWheelReader.STATE, FULL = FlashWheelReader.FULL;
    private static final int MIN = Integer.MIN_VALUE, MAX = Integer.MAX_VALUE;
    private static final Dues DUES = new Dues("TextTest");

    public static void main(String[] args) {
        ask();
        DUES.end();
    }

    static void ask() {
        buffer();
        cells();
        startAndSpeed();
        spaces();
        faults();
        firstFault();
        type();
        typeRefused();
        clearText();
        load();
        loadStays();
        loadFault();
        faultKind();
    }

    private static void buffer() {
        DUES.says("Text", "The text buffer has at most 80 characters with codes from 32 to 126.");
        FlashWheelReader x = new FlashWheelReader();
        due("type(31)", x.type(31), BAD);
        due("type(127)", x.type(127), BAD);
        due("type(32)", x.type(32), 1);
        due("type(126)", x.type(126), 2);
        for (int i = 3; i <= 80; i++) due("type(64)", x.type(64), i);
        due("type(64), the 81st", x.type(64), FULL);
        due("count(16)", x.count(16), 80);
    }

    private static void cells() {
        DUES.says("Text", "It can be read as a wheel: 1 to 60 characters, one for each cell, a full stop for none, "
            + "or a, b or c for the mark 1, 2 or 3;");
        good("a", 1, 0, 0);
        good(".", 1, 0, 0);
        good("abc.", 4, 0, 0);
        good(".cba", 4, 0, 0);
        good("c".repeat(59), 59, 0, 0);
        good("c".repeat(60), 60, 0, 0);
        fault("", 0, 1);
        fault("c".repeat(61), 60, 1);
        fault(".".repeat(80), 60, 1);
        // The characters beside those that can stand there
        for (String other : new String[] {"d", "`", "-", "/", "A", "B", "C", "0", "1", "~"}) {
            fault(other, 0, 1);
            fault("a" + other, 1, 1);
            fault("abc." + other, 4, 1);
        }
    }

    private static void startAndSpeed() {
        DUES.says("Text", "then, perhaps, an at sign and the start (1 or 2 digits, 0 to 59), and then, perhaps, an asterisk and the speed "
            + "(perhaps with a minus sign, 1 to 4 digits, -1000 to 1000).");
        good("a@0", 1, 0, 0);
        good("a@7", 1, 7, 0);
        good("a@9", 1, 9, 0);
        good("a@00", 1, 0, 0);
        good("a@07", 1, 7, 0);
        good("a@10", 1, 10, 0);
        good("a@59", 1, 59, 0);
        fault("a@60", 2, 2);
        fault("a@99", 2, 2);
        fault("a@059", 4, 1);
        good("a*7", 1, 0, 7);
        good("a*0", 1, 0, 0);
        good("a*-7", 1, 0, -7);
        good("a*-0", 1, 0, 0);
        good("a*45", 1, 0, 45);
        good("a*678", 1, 0, 678);
        good("a*1000", 1, 0, 1000);
        good("a*-1000", 1, 0, -1000);
        good("a*0999", 1, 0, 999);
        good("a*-0008", 1, 0, -8);
        fault("a*1001", 2, 2);
        fault("a*-1001", 3, 2);
        fault("a*9999", 2, 2);
        fault("a*01000", 6, 1);
        good("ab@12*-345", 2, 12, -345);
        good("ab@1*2", 2, 1, 2);
        good(".".repeat(60) + "@59*-1000", 60, 59, -1000);
        fault("a*5@5", 3, 1);
        fault("@5a", 0, 1);
        fault("*5", 0, 1);
        fault("a@-5", 2, 1);
        fault("a@5@5", 3, 1);
        fault("a*5*5", 3, 1);
    }

    private static void spaces() {
        DUES.says("Text", "There are no spaces.");
        fault(" a", 0, 1);
        fault("a ", 1, 1);
        fault("a b", 1, 1);
        fault("a @5", 1, 1);
        fault("a@ 5", 2, 1);
        fault("a@5 ", 3, 1);
        fault("a@5 *5", 3, 1);
        fault("a* 5", 2, 1);
        fault("a*- 5", 3, 1);
        fault("a*5 ", 3, 1);
        fault("a*-1000 ", 7, 1);
    }

    private static void faults() {
        DUES.says("Text", "The fault is 1 for a character that cannot stand at its place (its index; a 61st cell and a digit too many, too), "
            + "or the end of the text where something must follow (the length of the text), and 2 for a number that is out of its range "
            + "(the index of its first digit, behind a minus sign; it is found when another character than a digit, or the end, follows).");
        // A character that cannot stand at its place
        fault("ab1", 2, 1);
        fault("abd", 2, 1);
        fault("a-1", 1, 1);
        fault("a@/", 2, 1);
        fault("a@:", 2, 1);
        fault("a@x", 2, 1);
        fault("a@5x", 3, 1);
        fault("a@59.", 4, 1);
        fault("a@59a", 4, 1);
        fault("a*+1", 2, 1);
        fault("a*x", 2, 1);
        fault("a*-x", 3, 1);
        fault("a*--1", 3, 1);
        fault("a*5-", 3, 1);
        fault("a*1000.", 6, 1);
        // A 61st cell, and a digit too many
        fault("c".repeat(61), 60, 1);
        fault(".".repeat(60) + "d", 60, 1);
        fault("c".repeat(61) + "@5", 60, 1);
        fault("a@123", 4, 1);
        fault("a@000", 4, 1);
        fault("a@605", 4, 1);
        fault("a*12345", 6, 1);
        fault("a*00001", 6, 1);
        fault("a*-12345", 7, 1);
        // The end of the text where something must follow
        fault("", 0, 1);
        fault("a@", 2, 1);
        fault("a*", 2, 1);
        fault("a*-", 3, 1);
        fault("a@5*", 4, 1);
        fault("a@5*-", 5, 1);
        fault("a".repeat(60) + "@", 61, 1);
        // A number out of its range, that ends with the text or with another character
        fault("a@60", 2, 2);
        fault("a@99*5", 2, 2);
        fault("a@60x", 2, 2);
        fault("a@60@", 2, 2);
        fault("a*1001", 2, 2);
        fault("a*-1001", 3, 2);
        fault("a*9999x", 2, 2);
        fault("a@5*-2000-", 5, 2);
    }

    private static void firstFault() {
        DUES.says("Text", "The text is read from left to right, and the first fault that is found counts.");
        fault("a@60*5000", 2, 2);
        fault("a@60*x", 2, 2);
        fault("ax@60", 1, 1);
        fault("a@5x*5000", 3, 1);
        fault("a@605*5000", 4, 1);
        fault("xyz", 0, 1);
        fault("a".repeat(61) + "@60", 60, 1);
        fault("a@*5000", 2, 1);
    }

    private static void good(String text, int cells, int start, int speed) {
        FlashWheelReader x = new FlashWheelReader();
        Dues.load(x, "x");
        due("load() of " + text, Dues.load(x, text), cells);
        due("faultKind() of " + text, x.faultKind(), 0);
        due("cells of " + text, x.count(0), cells);
        due("start of " + text, x.count(3), start);
        due("speed of " + text, x.count(4), speed);
        x.setStart(0);
        for (int cell = 0; cell < cells; cell++) {
            due("cell " + cell + " of " + text, x.markAt(0, cell), ".abc".indexOf(text.charAt(cell)));
        }
    }

    private static void fault(String text, int index, int kind) {
        FlashWheelReader x = new FlashWheelReader();
        due("load() of " + text, Dues.load(x, text), -10 - index);
        due("faultKind() of " + text, x.faultKind(), kind);
        due("cells after " + text, x.count(0), 12);
        due("start after " + text, x.count(3), 0);
        due("speed after " + text, x.count(4), 0);
        due("states after " + text, x.count(17), 0);
    }

    private static void type() {
        DUES.says(2, "Appends a character to the text buffer.");
        FlashWheelReader x = new FlashWheelReader();
        for (char c : "b.c".toCharArray()) x.type(c);
        due("load()", x.load(), 3);
        int[] marks = {2, 0, 3};
        for (int cell = 0; cell < 3; cell++) due("cell " + cell, x.markAt(0, cell), marks[cell]);
        x.type('a');
        due("load() with one more", x.load(), 4);
        due("cell 0, which stays", x.markAt(0, 0), 2);
        due("cell 3", x.markAt(0, 3), 1);
        due("count(17), as typing is no change", x.count(17), 2);
        DUES.says(2, "`code`: its code, 32 to 126");
        x.clearText();
        for (int code = 32; code <= 79; code++) due("type(" + code + ")", x.type(code), code - 31);
        x.clearText();
        for (int code = 80; code <= 126; code++) due("type(" + code + ")", x.type(code), code - 79);
        DUES.says(2, "Returns how many characters the text buffer has then;");
        x.clearText();
        due("type(32), the first", x.type(32), 1);
        due("type(32), the second", x.type(32), 2);
        for (int i = 3; i < 80; i++) x.type(32);
        due("type(32), the 80th", x.type(32), 80);
        due("count(16)", x.count(16), 80);
    }

    private static void typeRefused() {
        DUES.says(2, "BAD if code is out of range;");
        FlashWheelReader x = new FlashWheelReader();
        for (int code : new int[] {31, 127, 0, -1, 128, 32 + 65536, MIN, MAX}) {
            DUES.refused("type(" + code + ") into an empty buffer", x, () -> x.type(code), BAD);
        }
        DUES.says(2, "FULL if it has 80.");
        FlashWheelReader full = new FlashWheelReader();
        for (int i = 1; i <= 79; i++) full.type(i <= 20 ? 'a' : '9');
        due("type() where it has 79", full.type('9'), 80);
        for (int code : new int[] {32, 97, 126}) {
            DUES.refused("type(" + code + ") where it has 80", full, () -> full.type(code), FULL);
        }
        DUES.refused("type(31) where it has 80", full, () -> full.type(31), BAD);
        due("load() of the 80", full.load(), -10 - 20);
        full.clearText();
        due("type() where there is room again", full.type('a'), 1);
    }

    private static void clearText() {
        DUES.says(3, "Empties the text buffer.");
        FlashWheelReader x = new FlashWheelReader();
        Dues.type(x, "abc");
        x.clearText();
        due("count(16)", x.count(16), 0);
        due("load()", x.load(), -10);
        x.type('b');
        due("load() of what came then", x.load(), 1);
        due("markAt(0, 0)", x.markAt(0, 0), 2);
        due("count(17), as it is no change", x.count(17), 1);
        DUES.says(3, "Returns how many characters it had.");
        FlashWheelReader y = new FlashWheelReader();
        due("clearText() of an empty one", y.clearText(), 0);
        y.type('a');
        due("clearText() of one", y.clearText(), 1);
        due("clearText() again", y.clearText(), 0);
        for (int i = 0; i < 80; i++) y.type('a');
        due("clearText() of a full one", y.clearText(), 80);
        due("clearText() again", y.clearText(), 0);
    }

    private static void load() {
        DUES.says(4, "Reads the text buffer, which stays, as a wheel, in place of the present one.");
        FlashWheelReader x = Dues.loaded("ab.@3*-2");
        due("n", x.count(0), 3);
        due("the marks", x.count(1), 2);
        due("the start", x.count(3), 3);
        due("the speed", x.count(4), -2);
        due("the characters", x.count(16), 8);
        due("load() again", x.load(), 3);
        Dues.load(x, "b".repeat(60));
        due("n of a longer one", x.count(0), 60);
        due("its last cell", x.markAt(0, 59), 2);
        Dues.load(x, "c");
        due("n of a shorter one", x.count(0), 1);
        due("its cell", x.markAt(0, 0), 3);
        Dues.load(x, "a".repeat(9) + ".");
        due("the marks of a longer one again", x.count(1), 9);
        DUES.says(4, "Without a start in the text it is 0, without a speed this is 0;");
        due("load() with both", Dues.load(x, "ab@7*8"), 2);
        due("load() without a start", Dues.load(x, "ab*9"), 2);
        due("the start", x.count(3), 0);
        due("the speed", x.count(4), 9);
        Dues.load(x, "ab@7*8");
        due("load() without a speed", Dues.load(x, "ab@6"), 2);
        due("the start", x.count(3), 6);
        due("the speed", x.count(4), 0);
        Dues.load(x, "ab@7*8");
        due("load() without both", Dues.load(x, "ab"), 2);
        due("the start", x.count(3), 0);
        due("the speed", x.count(4), 0);
        DUES.says(4, "there are no changes of the speed then;");
        for (int tick = 1; tick <= 5; tick++) x.setSpeed(tick, 1);
        due("load()", x.load(), 2);
        due("the changes", x.count(5), 0);
        due("turn(1000)", x.turn(999), 0);
        due("dropChange(1)", x.dropChange(1), BAD);
        due("setSpeed(9, 1), as there is room", x.setSpeed(9, 1), 1);
    }

    private static void loadStays() {
        DUES.says(4, "all else stays.");
        FlashWheelReader x = new FlashWheelReader();
        x.setFlash(3, 4);
        x.read(2, 1);
        x.read(7, -5);
        x.setLimit(55);
        x.setDisc(3, 5);
        x.turnDisc(2, 9);
        due("load()", Dues.load(x, "ab."), 3);
        int[] counts = {3, 4, 250, 2, 55, 3, 5, 2, 9};
        for (int i = 0; i < counts.length; i++) due("count(" + (6 + i) + ")", x.count(6 + i), counts[i]);
        due("reading(0, 0)", x.reading(0, 0), 2);
        due("reading(1, 1)", x.reading(1, 1), -5);
        due("the characters", x.count(16), 3);
        DUES.says(4, "This is a change.");
        FlashWheelReader y = new FlashWheelReader();
        y.setStart(9);
        y.setSpeed(0, 8);
        y.setSpeed(7, 6);
        Dues.type(y, "ab.");
        DUES.change("load()", y, y::load, 3);
        DUES.change("load(), as it is", y, y::load, 3);
        y.undo();
        y.undo();
        due("turn(9) after undo()", y.turn(9), (9 + 56 + 12) % 12);
        DUES.says(4, "Returns the number of cells;");
        due("load() of one", Dues.load(y, "."), 1);
        due("load() of 59", Dues.load(y, ".".repeat(59) + "*5"), 59);
        due("load() of 60", Dues.load(y, "a".repeat(60) + "@5"), 60);
    }

    private static void loadFault() {
        DUES.says(4, "-10 minus the index of the fault if there is one (then nothing but what faultKind() returns is changed).");
        FlashWheelReader x = Dues.loaded("abc@3*4");
        x.setSpeed(5, 5);
        faultChangesNothing(x, "", 0, 1);
        faultChangesNothing(x, "x", 0, 1);
        faultChangesNothing(x, "cca@99", 4, 2);
        faultChangesNothing(x, "cca@", 4, 1);
        faultChangesNothing(x, "cca@5*2000", 6, 2);
        faultChangesNothing(x, "cca@5*77x", 8, 1);
        faultChangesNothing(x, "c".repeat(79) + "x", 60, 1);
        due("turn(7)", x.turn(7), (3 + 20 + 10) % 3);
        due("the states", x.count(17), 2);
        due("undo() of setSpeed", x.undo(), 1);
        due("the changes", x.count(5), 0);
        due("load() of 80 characters", Dues.load(x, "a".repeat(60) + "@59*-1000" + "x".repeat(11)), -10 - 69);
    }

    private static void faultChangesNothing(FlashWheelReader x, String text, int index, int kind) {
        Dues.type(x, text);
        long before = x.digest();
        due("load() of " + text, x.load(), -10 - index);
        due("faultKind() of " + text, x.faultKind(), kind);
        due("the hash after " + text, x.digest(), before);
        due("the characters after " + text, x.count(16), text.length());
    }

    private static void faultKind() {
        DUES.says(5, "Returns the number of the fault that the latest call of load() found.");
        FlashWheelReader x = new FlashWheelReader();
        Dues.load(x, "a@99");
        due("faultKind() of a number", x.faultKind(), 2);
        due("faultKind() again", x.faultKind(), 2);
        Dues.load(x, "ax");
        due("faultKind() of a character", x.faultKind(), 1);
        Dues.type(x, "a@99");
        due("faultKind() before load()", x.faultKind(), 1);
        x.clearText();
        due("faultKind() after clearText()", x.faultKind(), 1);
        x.setStart(1);
        x.undo();
        due("faultKind() after undo()", x.faultKind(), 1);
        due("count(17), as it is no change", x.count(17), 0);
        DUES.says(5, "Returns 1 or 2;");
        Dues.load(x, "a@");
        due("faultKind() of the end", x.faultKind(), 1);
        Dues.load(x, "a*-1001");
        due("faultKind() of a number", x.faultKind(), 2);
        DUES.says(5, "0 if it found none, or there was no such call.");
        due("faultKind() of a new reader", new FlashWheelReader().faultKind(), 0);
        Dues.load(x, "a");
        due("faultKind() of a good text", x.faultKind(), 0);
        x.undo();
        due("faultKind() after undo() of it", x.faultKind(), 0);
        due("undo() of no more", x.undo(), STATE);
        FlashWheelReader typed = new FlashWheelReader();
        typed.type('x');
        due("faultKind() of a reader that has typed only", typed.faultKind(), 0);
    }

    private static void due(String call, long got, long want) {
        DUES.due(call, got, want);
    }
}
