import java.io.IOException;
import java.nio.file.Files;
import java.nio.file.Path;
import java.util.LinkedHashSet;
import java.util.Set;

/** Every sentence of the document's description and promises has a test that says it, and no test says another one. */
public final class SentencesTest {
    private static final Path DOCUMENT = Path.of("../shared/DOC.md");
    private static final Dues DUES = new Dues("SentencesTest");
    private static final Set<String> TESTED = Set.of("Wheel", "Flashes", "Readings", "Disc", "Text", "Changes and errors");

    public static void main(String[] args) throws IOException {
        WheelTest.ask();
        TextTest.ask();
        FlashTest.ask();
        ReadingTest.ask();
        DiscTest.ask();
        HistoryTest.ask();
        FaceTest.ask();
        Set<String> sentences = new LinkedHashSet<>();
        String section = "";
        for (String line : Files.readAllLines(DOCUMENT)) {
            if (line.startsWith("#")) section = sectionOf(line);
            else if (!isFurniture(line)) split(section, line.startsWith("- ") ? line.substring(2) : line, sentences);
        }
        for (String said : Dues.SAID) DUES.due("the document has: " + said, sentences.contains(said) ? 1 : 0, 1);
        int asked = 0;
        for (String sentence : sentences) {
            if (!isTested(sentence)) continue;
            asked++;
            DUES.due("a test says: " + sentence, Dues.SAID.contains(sentence) ? 1 : 0, 1);
        }
        DUES.due("the document was read", asked > 100 ? 1 : 0, 1);
        DUES.end();
    }

    /** A heading without its signs, and that of a promise without the name of its method. */
    private static String sectionOf(String heading) {
        return heading.replaceAll("^#+ ", "").replaceAll("^(Promise \\d+):.*", "$1");
    }

    /** Signatures and the lines between the groups of promises are no sentences. */
    private static boolean isFurniture(String line) {
        return line.isBlank() || line.startsWith("`") || line.startsWith("----");
    }

    private static boolean isTested(String sentence) {
        String section = sentence.substring(0, sentence.indexOf(" | "));
        return section.startsWith("Promise ") || TESTED.contains(section);
    }

    /** A sentence ends with a full stop or a semicolon that is in no brackets, or with brackets around the whole. */
    private static void split(String section, String line, Set<String> sentences) {
        int depth = 0;
        int begin = 0;
        for (int i = 0; i < line.length(); i++) {
            char c = line.charAt(i);
            if (c == '(') depth++;
            if (c == ')') depth--;
            boolean wordEnds = i + 1 == line.length() || line.charAt(i + 1) == ' ';
            boolean ends = c == '.' || c == ';' || c == ')' && i > 0 && line.charAt(i - 1) == '.';
            if (i + 1 == line.length() || depth == 0 && wordEnds && ends) {
                sentences.add(Dues.sentenceOf(section, line.substring(begin, i + 1)));
                begin = i + 1;
            }
        }
    }
}
