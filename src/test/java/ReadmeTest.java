import java.lang.reflect.InvocationTargetException;
import java.lang.reflect.Method;
import java.lang.reflect.Modifier;
import java.net.URL;
import java.net.URLClassLoader;
import java.nio.file.Files;
import java.nio.file.Path;
import java.util.regex.Matcher;
import java.util.regex.Pattern;
import java.util.stream.Stream;
import javax.tools.ToolProvider;

/** README.md's examples are compiled and run, and each answer that a comment tells ("= 3") is looked at. */
public final class ReadmeTest {
    private static final Pattern BLOCK = Pattern.compile("(?s)```java\n(.*?)```");
    private static final Pattern ANSWERED = Pattern.compile("\\s*(?:int (\\w+) = )?(x\\.\\w+\\(.*\\));\\s+// = (-?\\w+).*");
    private static final int LEAST_ANSWERS = 30;

    private static int answers = 0;
    private static int wrong = 0;

    public static void main(String[] args) throws Exception {
        String readme = Files.readString(Path.of("README.md"));
        run(programOf(readme));
        namesEachCall(readme);
        if (answers < LEAST_ANSWERS) {
            fault("it tells only " + answers + " answers");
        }
        System.out.println("readme: " + answers + " answers, " + wrong + " wrong");
        if (wrong != 0) {
            System.exit(1);
        }
    }

    private static void fault(String what) {
        wrong++;
        System.out.println("README.md: " + what);
    }

    /** Called by the program that is made of the examples. */
    public static void due(String call, long got, long want) {
        answers++;
        if (got != want) {
            fault(call + " answered " + got + ", but the page tells " + want);
        }
    }

    private static String programOf(String readme) {
        StringBuilder body = new StringBuilder();
        Matcher blocks = BLOCK.matcher(readme);
        while (blocks.find()) {
            blocks.group(1).lines().forEach(line -> body.append(checked(line)).append('\n'));
        }
        return "public final class Examples {\n    public static void run() {\n" + body + "    }\n}\n";
    }

    private static String checked(String line) {
        Matcher m = ANSWERED.matcher(line);
        if (!m.matches()) {
            return line;
        }
        String want = m.group(3).matches("[A-Z].*") ? "StagedRollout." + m.group(3) : m.group(3);
        String declared = m.group(1) == null ? "" : "int " + m.group(1) + " = " + m.group(2) + "; ";
        String got = m.group(1) == null ? m.group(2) : m.group(1);
        return declared + "ReadmeTest.due(\"" + m.group(2) + "\", " + got + ", " + want + ");";
    }

    private static void run(String program) throws Exception {
        Path room = Files.createTempDirectory("readme");
        try {
            Path file = Files.writeString(room.resolve("Examples.java"), program);
            int code = ToolProvider.getSystemJavaCompiler().run(null, null, null, "-d", room.toString(),
                "-cp", System.getProperty("java.class.path"), file.toString());
            if (code != 0) {
                fault("its examples do not compile");
                return;
            }
            runCompiled(room);
        } finally {
            remove(room);
        }
    }

    private static void runCompiled(Path room) throws Exception {
        try (URLClassLoader loader = new URLClassLoader(new URL[] {room.toUri().toURL()})) {
            loader.loadClass("Examples").getMethod("run").invoke(null);
        } catch (InvocationTargetException e) {
            fault("its examples throw " + e.getCause());
        }
    }

    private static void remove(Path room) throws Exception {
        try (Stream<Path> files = Files.list(room)) {
            for (Path file : files.toList()) {
                Files.delete(file);
            }
        }
        Files.delete(room);
    }

    private static void namesEachCall(String readme) {
        for (Method m : StagedRollout.class.getDeclaredMethods()) {
            boolean isNamed = readme.contains("`" + m.getName() + "`");
            if (Modifier.isPublic(m.getModifiers()) && !isNamed) {
                fault("it does not name " + m.getName() + "()");
            }
        }
    }
}
