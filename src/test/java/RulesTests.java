import java.io.IOException;
import java.lang.management.ManagementFactory;
import java.lang.reflect.Constructor;
import java.lang.reflect.Field;
import java.lang.reflect.Method;
import java.lang.reflect.Modifier;
import java.nio.file.Files;
import java.nio.file.Path;
import java.util.ArrayList;
import java.util.List;
import java.util.Set;
import java.util.TreeSet;
import java.util.regex.Matcher;
import java.util.regex.Pattern;

/**
 * The rules of LANGUAGE.md that can be seen in the text of the class or counted while it runs.
 * It is started in the project's folder.
 */
public final class RulesTests {
    private static final Path SOURCE = Path.of("src/main/java/AnswerLines.java");
    private static final Set<String> FACE = Set.of("kind", "bare", "of", "line", "quarrel", "say", "wipe", "fault",
        "has", "drop", "answer", "next", "run", "nearest", "doubt", "settle", "shift", "column", "packed", "slot",
        "one", "call", "forget", "size", "hits", "need", "told");
    private static final Set<String> FACE_TYPES = Set.of("int kind int int int int", "int bare int boolean",
        "int of int int", "int line int int", "int quarrel int", "int say int", "int wipe", "int fault",
        "int has int int", "int drop int int", "int answer int int", "int next int int int", "int run int int int",
        "int nearest int int", "int doubt int", "int settle int int", "int shift int int", "int column int",
        "int packed int", "int slot int", "int one int int int", "int call int int", "int forget", "int size int int",
        "int hits int int", "int need int int", "int told int");
    private static final Set<String> CONSTANTS = Set.of("int UNKNOWN", "int OUTSIDE", "int STATE", "int FULL", "int NO",
        "int NONE");
    private static final Pattern METHOD = Pattern.compile(
        "^ +(public |private )?(static )?(int|boolean|char|void) (\\w+)\\(([^)]*)\\) \\{$");
    private static int wrong = 0;

    private static void check(boolean holds, String rule) {
        if (holds) return;
        wrong++;
        System.out.println("broken: " + rule);
    }

    private static String withoutComments(String text) {
        return text.replaceAll("(?s)/\\*.*?\\*/", "").replaceAll("//[^\n]*", "").replaceAll("'[^']*'", "' '");
    }

    private static void words(String code) {
        String[] banned = {"throw", "throws", "try", "catch", "finally", "synchronized", "assert", "import", "package",
            "protected", "volatile", "transient", "native", "Object", "System", "Exception", "default", "->", "::",
            "hashCode", "toString", "Exact", "interface", "\""};
        for (String word : banned) {
            boolean plain = Character.isLetter(word.charAt(0));
            Pattern p = Pattern.compile(plain ? "\\b\\w*" + word + "\\b" : Pattern.quote(word));
            check(!p.matcher(code).find(), "the word " + word);
        }
        check(code.indexOf("static {") < 0, "rule 5, no static block");
        Matcher field = Pattern.compile("(?m)^ +(public |private )?static (?!final )[^(]*;").matcher(code);
        check(!field.find(), "rule 5, static fields are final");
        Matcher inner = Pattern.compile("(?m)^ +.*\\bclass \\w+").matcher(code);
        int classes = 0;
        while (inner.find()) {
            classes++;
            check(inner.group().contains("private static final class"), "rule 2, " + inner.group().trim());
        }
        check(classes > 0 && classes <= 12, "rule 11, at most some twelve classes");
        Matcher made = Pattern.compile("(?m)^.*\\bnew\\b.*$").matcher(code);
        while (made.find()) {
            String line = made.group();
            boolean field0 = line.contains("private final");
            boolean constructor = line.matches("        \\w+ = new \\w+\\(\\);");
            check(field0 || constructor, "objects are made with the object alone: " + line.trim());
        }
    }

    private static void methods(String code) {
        List<String> lines = List.of(code.split("\n"));
        TreeSet<String> found = new TreeSet<>();
        for (int i = 0; i < lines.size(); i++) {
            Matcher m = METHOD.matcher(lines.get(i));
            if (!m.matches()) continue;
            boolean isPublic = "public ".equals(m.group(1));
            String name = m.group(4);
            if (isPublic) found.add(name);
            check(isPublic == FACE.contains(name), "rule 1, the name " + name);
            check(m.group(5).split(",").length <= 7, "rule 11, parameters of " + name);
            String end = lines.get(i).replaceAll("\\S.*", "") + "}";
            int length = 1;
            while (i + length < lines.size() && !lines.get(i + length).equals(end)) length++;
            check(length <= 60, "rule 11, the length of " + name);
        }
        check(found.equals(new TreeSet<>(FACE)), "rule 1, the face: " + found);
    }

    /** Rule 1: what can be seen of the class from outside is the document's face, and nothing else. */
    private static void face() {
        TreeSet<String> seen = new TreeSet<>();
        for (Method m : AnswerLines.class.getDeclaredMethods()) {
            if (Modifier.isPrivate(m.getModifiers())) continue;
            check(Modifier.toString(m.getModifiers()).equals("public"), "rule 1, the method " + m);
            StringBuilder types = new StringBuilder(m.getReturnType() + " " + m.getName());
            for (Class<?> type : m.getParameterTypes()) types.append(' ').append(type);
            seen.add(types.toString());
        }
        check(seen.equals(FACE_TYPES), "rule 1, the face: " + seen);
        seen.clear();
        for (Field f : AnswerLines.class.getDeclaredFields()) {
            if (Modifier.isPrivate(f.getModifiers())) continue;
            check(Modifier.toString(f.getModifiers()).equals("public static final"), "rule 1, the field " + f);
            seen.add(f.getType() + " " + f.getName());
        }
        check(seen.equals(CONSTANTS), "rule 1, the constants: " + seen);
        Constructor<?>[] makers = AnswerLines.class.getDeclaredConstructors();
        boolean one = makers.length == 1 && makers[0].getParameterCount() == 0;
        check(one && Modifier.isPublic(makers[0].getModifiers()), "rule 1, one public constructor without parameters");
        check(Modifier.toString(AnswerLines.class.getModifiers()).equals("public final"), "rule 1, public and final");
    }

    private static int sink = 0;

    private static void everyCall(AnswerLines x) {
        sink += x.kind(2, 0, 1, 0) + x.bare(1, true) + x.of(1, 1) + x.line(3, -1) + x.quarrel(2);
        sink += x.say('a') + x.fault() + x.has(1, 3) + x.say('1') + x.wipe() + x.answer(2, 3) + x.next(2, 3, 1);
        sink += x.run(2, 3, -1) + x.run(0, 0, -2) + x.nearest(2, 3) + x.doubt(3) + x.settle(3, 0) + x.shift(0, 3);
        sink += x.column(-1) + x.packed(-1) + x.slot(3) + x.one(0, 3, 1) + x.call(0, 1) + x.size(0, 2);
        sink += x.hits(0, 1) + x.hits(0, 2) + x.hits(0, 11) + x.need(0, 3) + x.told(2) + x.drop(1, 3) + x.forget();
    }

    private static AnswerLines started() {
        AnswerLines x = new AnswerLines();
        x.kind(0, 0, 0, 0);
        x.kind(0, 0, 0, 0);
        return x;
    }

    private static long allocated() {
        return ((com.sun.management.ThreadMXBean) ManagementFactory.getThreadMXBean()).getCurrentThreadAllocatedBytes();
    }

    /** All calls of a run share one room, so calls make nothing, and an object little. */
    private static void room() {
        List<AnswerLines> objects = new ArrayList<>();
        for (int i = 0; i < 101; i++) objects.add(null);
        objects.set(100, started());
        for (int i = 0; i < 15; i++) everyCall(objects.get(100));
        allocated();
        long before = allocated();
        for (int i = 0; i < 100; i++) objects.set(i, started());
        long made = allocated();
        for (int i = 0; i < 100; i++) {
            for (int j = 0; j < 15; j++) everyCall(objects.get(i));
        }
        long called = allocated();
        check((made - before) / 100 < 8000, "room: an object takes " + (made - before) / 100 + " bytes");
        check((called - made) / 1500 < 16, "rule 12: 30 calls make " + (called - made) / 1500 + " bytes");
    }

    public static void main(String[] args) throws IOException {
        String text = Files.readString(SOURCE);
        check(text.chars().allMatch(c -> c == '\n' || c >= 32 && c < 127), "only plain signs in the text");
        check(text.lines().allMatch(line -> line.length() <= 120), "lines of 120 signs at most");
        String code = withoutComments(text);
        words(code);
        methods(code);
        face();
        room();
        System.out.println(wrong == 0 ? "all rules are kept" : wrong + " rules are broken");
        if (wrong != 0) System.exit(1);
    }
}
