/** Promises 2 to 5: the text buffer, and how it is read as a wheel. */
public final class TextTest {
    private static final int BAD = FlashWheelReader.BAD, FULL = FlashWheelReader.FULL;
    private static final Dues DUES = new Dues("TextTest");

    public static void main(String[] args) {
        typing();
        goodTexts();
        faults();
        loading();
        faultChangesNothing();
        DUES.end();
    }

    private static void typing() {
        FlashWheelReader x = new FlashWheelReader();
        due("clearText() of an empty one", x.clearText(), 0);
        due("type(31)", x.type(31), BAD);
        due("type(127)", x.type(127), BAD);
        due("type(MIN)", x.type(Integer.MIN_VALUE), BAD);
        due("type(MAX)", x.type(Integer.MAX_VALUE), BAD);
        due("type(32)", x.type(32), 1);
        due("type(126)", x.type(126), 2);
        for (int i = 3; i <= 80; i++) due("type(97)", x.type(97), i);
        due("type(97), the 81st", x.type(97), FULL);
        due("type(31) where it is full", x.type(31), BAD);
        due("count(16)", x.count(16), 80);
        due("count(17), as typing is no change", x.count(17), 0);
        due("clearText()", x.clearText(), 80);
        due("count(16)", x.count(16), 0);
        due("type(97)", x.type(97), 1);
    }

    private static void goodTexts() {
        good("a", 1, 0, 0);
        good(".", 1, 0, 0);
        good("abc.", 4, 0, 0);
        good("a@0", 1, 0, 0);
        good("a@7", 1, 7, 0);
        good("a@07", 1, 7, 0);
        good("a@59", 1, 59, 0);
        good("a*7", 1, 0, 7);
        good("a*-7", 1, 0, -7);
        good("a*-0", 1, 0, 0);
        good("a*1000", 1, 0, 1000);
        good("a*-1000", 1, 0, -1000);
        good("a*0999", 1, 0, 999);
        good("ab@12*-345", 2, 12, -345);
        good("c".repeat(60), 60, 0, 0);
        good(".".repeat(60) + "@59*-1000", 60, 59, -1000);
    }

    private static void good(String text, int cells, int start, int speed) {
        FlashWheelReader x = new FlashWheelReader();
        Dues.load(x, "x");
        due("load() of " + text, Dues.load(x, text), cells);
        due("faultKind() of " + text, x.faultKind(), 0);
        due("cells of " + text, x.count(0), cells);
        due("start of " + text, x.count(3), start);
        due("speed of " + text, x.count(4), speed);
        x.setStart(0);
        for (int cell = 0; cell < cells; cell++) {
            due("cell " + cell + " of " + text, x.markAt(0, cell), ".abc".indexOf(text.charAt(cell)));
        }
    }

    private static void faults() {
        fault("", 0, 1);
        fault("@5", 0, 1);
        fault("*5", 0, 1);
        fault("d", 0, 1);
        fault("A", 0, 1);
        fault("`", 0, 1);
        fault(" a", 0, 1);
        fault("a ", 1, 1);
        fault("a/", 1, 1);
        fault("ab1", 2, 1);
        fault("abd", 2, 1);
        fault("a-1", 1, 1);
        fault("c".repeat(61), 60, 1);
        fault(".".repeat(60) + "d", 60, 1);
        fault("a@", 2, 1);
        fault("a@*5", 2, 1);
        fault("a@-5", 2, 1);
        fault("a@/", 2, 1);
        fault("a@:", 2, 1);
        fault("a@123", 4, 1);
        fault("a@605", 4, 1);
        fault("a@60", 2, 2);
        fault("a@99*5", 2, 2);
        fault("a@60x", 2, 2);
        fault("a@60*5000", 2, 2);
        fault("a@5x", 3, 1);
        fault("a@5@5", 3, 1);
        fault("a@59.", 4, 1);
        fault("a@5*", 4, 1);
        fault("a*", 2, 1);
        fault("a*-", 3, 1);
        fault("a*--1", 3, 1);
        fault("a*+1", 2, 1);
        fault("a*x", 2, 1);
        fault("a*-x", 3, 1);
        fault("a*12345", 6, 1);
        fault("a*-12345", 7, 1);
        fault("a*00001", 6, 1);
        fault("a*1001", 2, 2);
        fault("a*-1001", 3, 2);
        fault("a*9999x", 2, 2);
        fault("a*5-", 3, 1);
        fault("a*5*5", 3, 1);
        fault("a*5@5", 3, 1);
        fault("a*1000.", 6, 1);
        fault("a*-1000 ", 7, 1);
    }

    private static void fault(String text, int index, int kind) {
        FlashWheelReader x = new FlashWheelReader();
        due("load() of " + text, Dues.load(x, text), -10 - index);
        due("faultKind() of " + text, x.faultKind(), kind);
        due("cells after " + text, x.count(0), 12);
        due("states after " + text, x.count(17), 0);
    }

    private static void loading() {
        FlashWheelReader x = new FlashWheelReader();
        x.setStart(9);
        x.setSpeed(0, 8);
        x.setSpeed(7, 6);
        x.setFlash(3, 4);
        x.read(2, 1);
        x.setDisc(3, 5);
        due("load()", Dues.load(x, "ab."), 3);
        due("start", x.count(3), 0);
        due("speed", x.count(4), 0);
        due("changes of the speed", x.count(5), 0);
        due("first flash", x.count(6), 3);
        due("period", x.count(7), 4);
        due("readings", x.count(9), 1);
        due("m", x.count(11), 3);
        due("characters, which stay", x.count(16), 3);
        due("turn(1000)", x.turn(1000), 0);
        due("states", x.count(17), 7);
        due("load() with start and speed", Dues.load(x, "b@7*8"), 1);
        due("load() without them", Dues.load(x, "ab."), 3);
        due("start that is not in the text", x.count(3), 0);
        due("speed that is not in the text", x.count(4), 0);
        x.undo();
        x.undo();
        due("load() again", x.load(), 3);
        due("states", x.count(17), 7);
        x.undo();
        due("undo()", x.undo(), 5);
        due("cells after undo", x.count(0), 12);
        due("start after undo", x.count(3), 9);
        due("speed after undo", x.count(4), 8);
        due("turn(9) after undo", x.turn(9), (9 + 56 + 12) % 12);
        due("text after undo", x.count(16), 3);
    }

    private static void faultChangesNothing() {
        FlashWheelReader x = new FlashWheelReader();
        Dues.load(x, "abc@3*4");
        x.setSpeed(5, 5);
        long before = x.digest();
        Dues.type(x, "cca@99");
        due("load() with a fault", x.load(), -14);
        due("faultKind()", x.faultKind(), 2);
        Dues.type(x, "abc@3*4");
        due("digest()", x.digest(), before);
        due("faultKind() stays", x.faultKind(), 2);
        x.undo();
        due("faultKind() after undo", x.faultKind(), 2);
        x.clearText();
        due("faultKind() after clearText", x.faultKind(), 2);
        due("load()", x.load(), -10);
        due("faultKind()", x.faultKind(), 1);
        due("load()", Dues.load(x, "a"), 1);
        due("faultKind()", x.faultKind(), 0);
    }

    private static void due(String call, long got, long want) {
        DUES.due(call, got, want);
    }
}
