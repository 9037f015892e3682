import java.io.IOException;
import java.lang.reflect.InvocationTargetException;
import java.net.URL;
import java.net.URLClassLoader;
import java.nio.file.Files;
import java.nio.file.Path;
import java.util.regex.Matcher;
import java.util.regex.Pattern;
import java.util.stream.Stream;
import javax.tools.ToolProvider;

/** The example of README.md is compiled and run as it stands: each call answers the number or constant told behind it. */
public final class ReadmeTests {
    private static final Path README = Path.of("README.md");
    private static final Pattern EXAMPLE = Pattern.compile("(?s)```java\n(.*?)```");
    private static final Pattern TOLD = Pattern.compile("(int \\w+ = )?(x\\.\\w+\\(.*\\)); +// (-?\\d+|[A-Z]+)\\b.*");
    private static int wrong = 0;
    private static int checks = 0;

    /** The example calls this, from a class of its own. */
    public static int due(String call, int got, int want) {
        checks++;
        if (got != want) {
            wrong++;
            System.out.println("README.md: " + call + " answered " + got + ", told is " + want);
        }
        return got;
    }

    private static String checked(String line) {
        Matcher told = TOLD.matcher(line);
        if (!told.matches()) return line;
        String kept = told.group(1) == null ? "" : told.group(1);
        String call = told.group(2);
        String want = Character.isLetter(told.group(3).charAt(0)) ? "AnswerLines." + told.group(3) : told.group(3);
        return kept + "ReadmeTests.due(\"" + call.replace("\"", "\\\"") + "\", " + call + ", " + want + ");";
    }

    private static String program(String example) {
        StringBuilder text = new StringBuilder("public final class Example {\npublic static void run() {\n");
        example.lines().forEach(line -> text.append(checked(line)).append('\n'));
        return text.append("}\n}\n").toString();
    }

    private static void compileAndRun(String program, Path folder) throws IOException, ReflectiveOperationException {
        Path source = folder.resolve("Example.java");
        Files.writeString(source, program);
        String with = System.getProperty("java.class.path");
        int code = ToolProvider.getSystemJavaCompiler()
            .run(null, null, null, "-cp", with, "-d", folder.toString(), source.toString());
        if (code != 0) {
            wrong++;
            System.out.println("README.md: the example does not compile");
            return;
        }
        try (URLClassLoader loader = new URLClassLoader(new URL[] {folder.toUri().toURL()})) {
            loader.loadClass("Example").getMethod("run").invoke(null);
        } catch (InvocationTargetException thrown) {
            wrong++;
            System.out.println("README.md: the example throws " + thrown.getCause());
        }
    }

    private static void remove(Path folder) throws IOException {
        try (Stream<Path> files = Files.list(folder)) {
            for (Path file : files.toList()) Files.delete(file);
        }
        Files.delete(folder);
    }

    public static void main(String[] args) throws IOException, ReflectiveOperationException {
        Matcher example = EXAMPLE.matcher(Files.readString(README));
        if (example.find()) {
            Path folder = Files.createTempDirectory("readme");
            try {
                compileAndRun(program(example.group(1)), folder);
            } finally {
                remove(folder);
            }
        }
        if (checks == 0) {
            wrong++;
            System.out.println("README.md: no example is checked");
        }
        System.out.println(wrong == 0 ? checks + " answers of the example are as told" : wrong + " are not as told");
        if (wrong != 0) System.exit(1);
    }
}
