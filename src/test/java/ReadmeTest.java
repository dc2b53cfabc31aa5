import java.io.File;
import java.io.IOException;
import java.lang.reflect.Method;
import java.lang.reflect.Modifier;
import java.nio.charset.StandardCharsets;
import java.nio.file.Files;
import java.nio.file.Path;
import java.util.ArrayList;
import java.util.List;
import java.util.Set;
import java.util.TreeSet;
import java.util.regex.Matcher;
import java.util.regex.Pattern;

/** What README.md says is true when it is followed word for word. */
public final class ReadmeTest {
    private static final Path README = Path.of("README.md");
    private static final Path SOURCE = Path.of("src/main/java/FlashWheelReader.java");
    private static final Path TESTS = Path.of("src/test/java");
    private static final Dues DUES = new Dues("ReadmeTest");

    public static void main(String[] args) throws IOException, InterruptedException {
        List<String> lines = Files.readAllLines(README);
        program(lines);
        calls(lines);
        tests(lines);
        wayToTests(lines);
        paths(lines);
        DUES.end();
    }

    /** The program is followed in a directory that has the class alone, so that nothing is left in this one. */
    private static void program(List<String> lines) throws IOException, InterruptedException {
        Path directory = Files.createTempDirectory("readme");
        Files.createDirectories(directory.resolve(SOURCE).getParent());
        Files.copy(SOURCE, directory.resolve(SOURCE));
        Files.write(directory.resolve("Look.java"), blocks(lines, "java").get(0));
        List<String> printed = new ArrayList<>();
        for (String command : blocks(lines, "sh").get(0)) {
            // What a machine says about itself goes to its error stream, and is no part of what the program prints.
            Process process = new ProcessBuilder(command.split(" ")).directory(directory.toFile())
                .redirectError(ProcessBuilder.Redirect.INHERIT).start();
            String output = new String(process.getInputStream().readAllBytes(), StandardCharsets.UTF_8);
            DUES.due("exit code of " + command, process.waitFor(), 0);
            printed.addAll(output.lines().toList());
        }
        List<String> want = blocks(lines, "text").get(0);
        DUES.due("lines that the program prints", printed.size(), want.size());
        for (int i = 0; i < Math.min(printed.size(), want.size()); i++) {
            DUES.due(printed.get(i) + ", where README.md has " + want.get(i), printed.get(i).equals(want.get(i)) ? 1 : 0, 1);
        }
        delete(directory.toFile());
    }

    private static void calls(List<String> lines) {
        TreeSet<String> told = new TreeSet<>();
        for (String row : table(lines, "| for | calls |")) told.addAll(marked(row));
        TreeSet<String> there = new TreeSet<>();
        for (Method method : FlashWheelReader.class.getDeclaredMethods()) {
            if (Modifier.isPublic(method.getModifiers())) there.add(method.getName());
        }
        same("calls", told, there);
    }

    private static void tests(List<String> lines) {
        TreeSet<String> told = new TreeSet<>();
        for (String row : table(lines, "| test | what it asks |")) told.add(row.split("\\|")[1].strip());
        TreeSet<String> there = new TreeSet<>();
        for (String file : TESTS.toFile().list()) {
            if (file.endsWith("Test.java")) there.add(file.replace(".java", ""));
        }
        same("tests", told, there);
    }

    /** Following this command here would run this test again, without an end. */
    private static void wayToTests(List<String> lines) {
        List<String> commands = blocks(lines, "sh").get(1);
        DUES.due("commands that run the tests", commands.size(), 1);
        String script = commands.get(0).substring(commands.get(0).lastIndexOf(' ') + 1);
        DUES.due(script + " is there", Files.isRegularFile(Path.of(script)) ? 1 : 0, 1);
    }

    private static void paths(List<String> lines) {
        int asked = 0;
        for (String line : lines) {
            for (String word : marked(line)) {
                if (!word.contains("/") || word.contains(" ")) continue;
                asked++;
                DUES.due("there is " + word, Files.exists(Path.of(word)) ? 1 : 0, 1);
            }
        }
        DUES.due("paths were asked", asked > 0 ? 1 : 0, 1);
    }

    private static void same(String what, Set<String> told, Set<String> there) {
        for (String name : told) DUES.due("of the " + what + " there is " + name, there.contains(name) ? 1 : 0, 1);
        for (String name : there) DUES.due("of the " + what + " README.md tells " + name, told.contains(name) ? 1 : 0, 1);
    }

    /** What stands between the signs of code of this kind, in the order of the blocks. */
    private static List<List<String>> blocks(List<String> lines, String kind) {
        List<List<String>> blocks = new ArrayList<>();
        List<String> block = null;
        for (String line : lines) {
            if (line.equals("```")) block = null;
            if (block != null) block.add(line);
            if (line.equals("```" + kind)) blocks.add(block = new ArrayList<>());
        }
        return blocks;
    }

    /** The rows behind this heading and the line under it. */
    private static List<String> table(List<String> lines, String heading) {
        int first = lines.indexOf(heading) + 2;
        int end = first;
        while (end < lines.size() && lines.get(end).startsWith("|")) end++;
        return lines.subList(first, end);
    }

    /** The words of a line that stand between two grave accents. */
    private static List<String> marked(String line) {
        List<String> words = new ArrayList<>();
        Matcher matcher = Pattern.compile("`([^`]+)`").matcher(line);
        while (matcher.find()) words.add(matcher.group(1));
        return words;
    }

    private static void delete(File file) {
        File[] inside = file.listFiles();
        if (inside != null) for (File one : inside) delete(one);
        file.delete();
    }
}
