import java.io.IOException;
import java.lang.reflect.Method;
import java.lang.reflect.Modifier;
import java.nio.file.Files;
import java.nio.file.Path;
import java.util.List;
import java.util.regex.Matcher;
import java.util.regex.Pattern;
import javax.tools.ToolProvider;

/**
 * The examples of README.md: its java blocks are made into one class, in which each line that tells an answer
 * behind // becomes a check; a block that begins with static holds functions that the others call.
 */
public final class ReadmeTest {
    private static final Pattern TELLING_LINE = Pattern.compile("(.+); // ([^:]+)(: .*)?");

    private final StringBuilder functions = new StringBuilder();
    private final StringBuilder statements = new StringBuilder();
    private int answers = 0;

    private void read(List<String> lines) {
        StringBuilder block = null;
        boolean first = false;
        for (int i = 0; i < lines.size(); i++) {
            String line = lines.get(i);
            if (line.equals("```java")) {
                first = true;
            } else if (line.equals("```")) {
                block = null;
            } else if (first || block != null) {
                if (first) block = line.startsWith("static ") ? functions : statements;
                first = false;
                block.append(statementOf(line, i + 1)).append('\n');
            }
        }
    }

    private String statementOf(String line, int number) {
        Matcher m = TELLING_LINE.matcher(line);
        if (!m.matches()) return line;
        answers++;
        String due = m.group(2).replaceFirst("^throws ", "");
        return "Checks.due(\"README.md line " + number + "\", \"" + due + "\", () -> " + m.group(1) + ");";
    }

    /** Compiles the examples to where this test stands, so that both see the same classes, and runs them. */
    private void run() throws IOException, ReflectiveOperationException {
        String classes = System.getProperty("java.class.path");
        Path file = Path.of("build", "readme", "ReadmeExamples.java");
        Files.createDirectories(file.getParent());
        Files.writeString(file, "final class ReadmeExamples {\n" + functions + "static void run() {\n" + statements + "}\n}\n");
        int failed = ToolProvider.getSystemJavaCompiler().run(null, null, null, "-cp", classes, "-d", classes, file.toString());
        Checks.due("README.md compiles", 0, () -> failed);
        if (failed == 0) {
            Method run = Class.forName("ReadmeExamples").getDeclaredMethod("run");
            run.setAccessible(true);
            run.invoke(null);
        }
    }

    /** Each call of the face stands in an example. */
    private void calls() {
        String code = functions.toString() + statements;
        for (Method m : KiteQuarrel.class.getDeclaredMethods()) {
            if (Modifier.isPublic(m.getModifiers())) Checks.due("README.md has an example of " + m.getName(), true, () -> code.contains("q." + m.getName() + "("));
        }
    }

    public static void main(String[] args) throws IOException, ReflectiveOperationException {
        ReadmeTest test = new ReadmeTest();
        test.read(Files.readAllLines(Path.of("README.md")));
        Checks.due("README.md tells answers", true, () -> test.answers > 50);
        test.calls();
        test.run();
        Checks.end("ReadmeTest");
    }
}
