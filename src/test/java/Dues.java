import java.util.LinkedHashSet;
import java.util.Set;
import java.util.function.IntSupplier;

/**
 * Counts the answers that are not as due, each under the sentence of the document that it belongs to; a test ends with
 * exit code 1 if there was one, or if it says a sentence and asks nothing for it.
 */
final class Dues {
    /** What the tests that have run in this machine have said: SentencesTest holds it against the document. */
    static final Set<String> SAID = new LinkedHashSet<>();
    private static final int MOST_LINES = 20;
    private final String test;
    private String sentence = "";
    private boolean silent;
    private int wrong;
    private int asked;

    Dues(String test) {
        this.test = test;
    }

    void says(int promise, String words) {
        says("Promise " + promise, words);
    }

    /** The answers that follow belong to this sentence of the document's section. */
    void says(String section, String words) {
        endSentence();
        sentence = sentenceOf(section, words);
        SAID.add(sentence);
        silent = true;
    }

    /** Sentences are compared without the sign that ends them. */
    static String sentenceOf(String section, String words) {
        return section + " | " + words.strip().replaceAll("[.;]+$", "");
    }

    void due(String call, long got, long want) {
        asked++;
        silent = false;
        if (got != want) tell(call + " answered " + got + ", due is " + want);
    }

    /** The call must return the error code and leave everything as it was. */
    void refused(String call, FlashWheelReader x, IntSupplier made, int code) {
        long before = x.digest();
        int fault = x.faultKind();
        due(call, made.getAsInt(), code);
        due("the hash after the refused " + call, x.digest(), before);
        due("faultKind() after the refused " + call, x.faultKind(), fault);
    }

    /** The call must be remembered, undone as if it had not been, and possible once more; fewer than 8 states may be there. */
    void change(String call, FlashWheelReader x, IntSupplier made, int answer) {
        long before = x.digest();
        int states = x.count(17);
        due(call, made.getAsInt(), answer);
        due("the states after " + call, x.count(17), states + 1);
        due("undo() of " + call, x.undo(), states);
        due("the hash after undo() of " + call, x.digest(), before);
        due(call + " again", made.getAsInt(), answer);
        due("the states after it", x.count(17), states + 1);
    }

    void end() {
        endSentence();
        System.out.println(test + ": " + asked + " answers, " + wrong + " not as due");
        if (wrong != 0 || asked == 0) System.exit(1);
    }

    private void endSentence() {
        if (silent) tell("nothing was asked");
        silent = false;
    }

    private void tell(String what) {
        wrong++;
        if (wrong <= MOST_LINES) System.out.println(test + ": " + what + (sentence.isEmpty() ? "" : "  <" + sentence + ">"));
    }

    /** Types a text in place of the one before, and loads it. */
    static int load(FlashWheelReader x, String text) {
        type(x, text);
        return x.load();
    }

    static void type(FlashWheelReader x, String text) {
        x.clearText();
        for (int i = 0; i < text.length(); i++) x.type(text.charAt(i));
    }

    /** A new reader with this wheel. */
    static FlashWheelReader loaded(String text) {
        FlashWheelReader x = new FlashWheelReader();
        load(x, text);
        return x;
    }
}
