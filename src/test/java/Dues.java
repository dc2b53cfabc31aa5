/** Counts the answers that are not as due; each test ends with exit code 1 if there was one. */
final class Dues {
    private final String test;
    private int wrong;
    private int asked;

    Dues(String test) {
        this.test = test;
    }

    void due(String call, long got, long want) {
        asked++;
        if (got == want) return;
        wrong++;
        if (wrong <= 20) System.out.println(test + ": " + call + " answered " + got + ", due is " + want);
    }

    void end() {
        System.out.println(test + ": " + asked + " answers, " + wrong + " not as due");
        if (wrong != 0 || asked == 0) System.exit(1);
    }

    /** Types a text in place of the one before, and loads it. */
    static int load(FlashWheelReader x, String text) {
        type(x, text);
        return x.load();
    }

    static void type(FlashWheelReader x, String text) {
        x.clearText();
        for (int i = 0; i < text.length(); i++) x.type(text.charAt(i));
    }
}
