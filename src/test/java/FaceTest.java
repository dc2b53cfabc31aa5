import java.io.IOException;
import java.lang.management.ManagementFactory;
import java.lang.reflect.Constructor;
import java.lang.reflect.Field;
import java.lang.reflect.Method;
import java.lang.reflect.Modifier;
import java.nio.file.Files;
import java.nio.file.Path;
import java.util.ArrayList;
import java.util.List;
import java.util.TreeSet;
import java.util.regex.Pattern;

/** The face that the document prints, the words that LANGUAGE.md forbids, wild arguments, and the room that calls take. */
public final class FaceTest {
    private static final Path SOURCE = Path.of("src/main/java/FlashWheelReader.java");
    private static final Dues DUES = new Dues("FaceTest");
    private static final String[] FACE = {
        "int type(int)", "int clearText()", "int load()", "int faultKind()", "int setMark(int,int)", "int setStart(int)",
        "int setSpeed(int,int)", "int dropChange(int)", "int markAt(int,int)", "int turn(int)", "int setFlash(int,int)",
        "int flash(int,int)", "int step(int,int)", "int seems(int)", "int stillPeriod(int,int)", "int read(int,int)",
        "int look(int)", "int dropReading(int)", "int reading(int,int)", "int setLimit(int)", "int candidates()",
        "int candidate(int)", "int nearest(int)", "int odd()", "int bestPeriod(int,boolean)", "int setDisc(int,int)",
        "int turnDisc(int,int)", "int isSeen(int)", "int opening(int,int)", "int smear(int,int)", "int undo()",
        "int count(int)", "long digest()"};
    private static final String[] FORBIDDEN = {
        "\\bthrow\\b", "\\bthrows\\b", "\\btry\\b", "\\bcatch\\b", "\\bsynchronized\\b", "\\bassert\\b", "->", "::",
        "^import\\b", "^package\\b", "\\bprotected\\b", "Exact\\(", "\\bSystem\\b", "\\bThread\\b", "\\bstatic \\{",
        "\\bpublic class\\b", "\\b(public|class|interface) .*\\bextends\\b", "\\b(Integer|Long)\\.M"};
    private static final int[] WILD = {Integer.MIN_VALUE, Integer.MIN_VALUE + 1, -1001, -61, -1, 0, 1, 2, 3, 29, 59, 60, 61,
        80, 500, 501, 999, 1000, 1001, Integer.MAX_VALUE - 1, Integer.MAX_VALUE};

    public static void main(String[] args) throws IOException {
        ask();
        words();
        wildArguments();
        room();
        DUES.end();
    }

    static void ask() {
        DUES.says("Changes and errors", "The constructor and the methods follow, a promise each: the signature, then what it does.");
        constants();
        face();
        DUES.says("What it is", "what later calls answer is free.");
        later();
    }

    /** What later calls answer is free, but LANGUAGE.md asks that none throws. */
    private static void later() {
        FlashWheelReader x = new FlashWheelReader();
        for (int call = 0; call < 2000; call++) x.setStart(call % 60);
        due("the call came back", x.digest() == x.digest() ? 1 : 0, 1);
    }

    private static void constants() {
        due("BAD", FlashWheelReader.BAD, -1001);
        due("STATE", FlashWheelReader.STATE, -1002);
        due("FULL", FlashWheelReader.FULL, -1003);
        due("NONE", FlashWheelReader.NONE, -1004);
    }

    private static void face() {
        due("the class is final and public", FlashWheelReader.class.getModifiers() & (Modifier.FINAL | Modifier.PUBLIC),
            Modifier.FINAL | Modifier.PUBLIC);
        TreeSet<String> want = new TreeSet<>(List.of(FACE));
        TreeSet<String> names = new TreeSet<>();
        for (String sign : FACE) names.add(sign.substring(sign.indexOf(' ') + 1, sign.indexOf('(')));
        for (Method method : FlashWheelReader.class.getDeclaredMethods()) {
            if (Modifier.isPrivate(method.getModifiers())) {
                due("no private method is called " + method.getName(), names.contains(method.getName()) ? 1 : 0, 0);
            } else {
                due("the face has " + sign(method), want.remove(sign(method)) ? 1 : 0, 1);
                due(method.getName() + " is public alone", method.getModifiers(), Modifier.PUBLIC);
            }
        }
        due("methods that are missing: " + want, want.size(), 0);
        for (Constructor<?> maker : FlashWheelReader.class.getDeclaredConstructors()) {
            due("the constructor", maker.getParameterCount() + maker.getModifiers(), Modifier.PUBLIC);
        }
        int open = 0;
        for (Field field : FlashWheelReader.class.getDeclaredFields()) {
            if (!Modifier.isPrivate(field.getModifiers())) open++;
            if (Modifier.isStatic(field.getModifiers())) due(field.getName() + " is final", field.getModifiers() & Modifier.FINAL, Modifier.FINAL);
        }
        due("fields that are not private", open, 4);
        for (Class<?> inside : FlashWheelReader.class.getDeclaredClasses()) {
            due(inside.getName() + " is static", inside.getModifiers() & Modifier.STATIC, Modifier.STATIC);
            for (Method method : inside.getDeclaredMethods()) {
                due("no method of " + inside.getName() + " is called " + method.getName(), names.contains(method.getName()) ? 1 : 0, 0);
            }
        }
    }

    private static String sign(Method method) {
        StringBuilder sign = new StringBuilder();
        sign.append(method.getReturnType()).append(' ').append(method.getName()).append('(');
        for (int i = 0; i < method.getParameterTypes().length; i++) {
            sign.append(i == 0 ? "" : ",").append(method.getParameterTypes()[i]);
        }
        return sign.append(')').toString();
    }

    private static void words() throws IOException {
        List<String> code = new ArrayList<>();
        for (String line : Files.readAllLines(SOURCE)) {
            if (!line.strip().startsWith("/**") && !line.strip().startsWith("//")) code.add(line);
        }
        for (String word : FORBIDDEN) {
            Pattern pattern = Pattern.compile(word);
            for (String line : code) due(word + " in: " + line.strip(), pattern.matcher(line).find() ? 1 : 0, 0);
        }
    }

    /** No call throws, whatever its arguments are; what the answers are is asked elsewhere. */
    private static void wildArguments() {
        FlashWheelReader x = new FlashWheelReader();
        for (int a : WILD) {
            for (int b : WILD) {
                two(x, a, b);
                two(new FlashWheelReader(), a, b);
            }
            one(x, a);
            one(new FlashWheelReader(), a);
            x.digest();
        }
        due("all calls came back", 1, 1);
    }

    private static void two(FlashWheelReader x, int a, int b) {
        x.setMark(a, b);
        x.setSpeed(a, b);
        x.markAt(a, b);
        x.setFlash(a, b);
        x.flash(a, b);
        x.step(a, b);
        x.stillPeriod(a, b);
        x.read(a, b);
        x.reading(a, b);
        x.setDisc(a, b);
        x.turnDisc(a, b);
        x.opening(a, b);
        x.smear(a, b);
    }

    private static void one(FlashWheelReader x, int a) {
        x.type(a);
        x.load();
        x.setStart(a);
        x.dropChange(a);
        x.turn(a);
        x.seems(a);
        x.look(a);
        x.dropReading(a);
        x.setLimit(a);
        x.candidate(a);
        x.nearest(a);
        x.bestPeriod(a, true);
        x.isSeen(a);
        x.count(a);
        x.undo();
        x.clearText();
    }

    /** All calls of one run share a room, so that a call makes nothing and an object little. */
    private static void room() {
        com.sun.management.ThreadMXBean threads = (com.sun.management.ThreadMXBean) ManagementFactory.getThreadMXBean();
        threads.getCurrentThreadAllocatedBytes();
        long before = threads.getCurrentThreadAllocatedBytes();
        FlashWheelReader x = new FlashWheelReader();
        long made = threads.getCurrentThreadAllocatedBytes();
        for (int i = 0; i < 25; i++) {
            two(x, i, i);
            one(x, i + 80);
            x.digest();
        }
        long after = threads.getCurrentThreadAllocatedBytes();
        due("a new object stays under 16 KiB", made - before < 16384 ? 1 : 0, 1);
        due("calls make nothing", after - made < 1024 ? 1 : 0, 1);
    }

    private static void due(String call, long got, long want) {
        DUES.due(call, got, want);
    }
}
