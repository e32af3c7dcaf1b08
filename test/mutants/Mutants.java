import java.io.IOException;
import java.nio.file.Files;
import java.nio.file.Path;
import java.util.ArrayList;
import java.util.List;
import java.util.Map;
import java.util.TreeMap;
import java.util.concurrent.ExecutorService;
import java.util.concurrent.Executors;
import java.util.concurrent.Future;
import java.util.concurrent.TimeUnit;
import java.util.function.Function;
import java.util.regex.Matcher;
import java.util.regex.Pattern;

/**
 * Tells which small faults in the program a test would not find: each operator, number, statement and condition is altered by
 * itself, and the test is run. It takes some ten minutes and is no part of .ci/run. From the project's directory, behind .ci/run:
 * java test/mutants/Mutants.java [name of a test]
 */
public final class Mutants {
    private record Mutant(int from, int to, String text) {
    }

    private static final Path PROGRAM = Path.of("src/main/java/KiteQuarrel.java");
    private static final Path BUILD = Path.of("build/mutants");
    private static final Map<String, String[]> OPERATORS = Map.ofEntries(Map.entry("<=", new String[] {"<"}), Map.entry(">=", new String[] {">"}), Map.entry("<", new String[] {"<="}),
        Map.entry(">", new String[] {">="}), Map.entry("==", new String[] {"!="}), Map.entry("!=", new String[] {"=="}), Map.entry("&&", new String[] {"||"}), Map.entry("||", new String[] {"&&"}),
        Map.entry(" + ", new String[] {" - "}), Map.entry(" - ", new String[] {" + "}), Map.entry(" * ", new String[] {" + "}), Map.entry(" / ", new String[] {" * "}), Map.entry("+=", new String[] {"-="}),
        Map.entry("|=", new String[] {"="}), Map.entry("Math.min", new String[] {"Math.max"}), Map.entry("Math.max", new String[] {"Math.min"}), Map.entry("Math.abs", new String[] {""}),
        Map.entry("true", new String[] {"false"}), Map.entry("false", new String[] {"true"}), Map.entry("x", new String[] {"y", "flyerX"}), Map.entry("y", new String[] {"x", "flyerY"}),
        Map.entry("flyerX", new String[] {"x"}), Map.entry("flyerY", new String[] {"y"}), Map.entry("height", new String[] {"out"}), Map.entry("out", new String[] {"height"}),
        Map.entry("kite", new String[] {"other"}), Map.entry("other", new String[] {"kite"}), Map.entry("first", new String[] {"second"}), Map.entry("second", new String[] {"first"}));

    private final String program;
    private final String bare;
    private final String test;
    private final List<Mutant> mutants = new ArrayList<>();

    private Mutants(String program, String test) {
        this.program = program;
        this.test = test;
        // what stands in comments and texts becomes blank, at its length
        Matcher m = Pattern.compile("/\\*.*?\\*/|//[^\n]*|\"[^\"\n]*\"", Pattern.DOTALL).matcher(program);
        bare = m.replaceAll(r -> r.group().replaceAll("[^\n]", " "));
    }

    private void alter(String pattern, int group, Function<String, String[]> texts) {
        Matcher m = Pattern.compile(pattern, Pattern.MULTILINE).matcher(bare);
        while (m.find()) {
            for (String text : texts.apply(m.group(group))) mutants.add(new Mutant(m.start(group), m.end(group), text));
        }
    }

    private void findMutants() {
        alter("<=|>=|==|!=|&&|\\|\\||\\+=|\\|=| [-+*/] |Math\\.(?:min|max|abs)|(?<![<>\\-])[<>](?![<>=])", 0, OPERATORS::get);
        alter("(?<![\\w.])(true|false|x|y|flyerX|flyerY|height|out|kite|other|first|second)(?!\\w)", 1, OPERATORS::get);
        alter("(?<![\\w.])\\d+(?![\\w.])", 0, n -> new String[] {String.valueOf(Integer.parseInt(n) + 1), "(" + (Integer.parseInt(n) - 1) + ")"});
        alter("^ {8,}((?!return|throw|break|continue|final|int |boolean |[A-Z])[^;{}\n]*;) *$", 1, s -> new String[] {";"});
        alter("\\bif (\\([^{}\n]*\\)) \\{", 1, s -> new String[] {"(true)", "(false)"});
    }

    /** Tells of a mutant: killed, alive, or no program. */
    private String fate(int number) throws IOException, InterruptedException {
        Mutant m = mutants.get(number);
        Path place = Files.createDirectories(BUILD.resolve(String.valueOf(number)));
        Path file = place.resolve("KiteQuarrel.java");
        Files.writeString(file, program.substring(0, m.from) + m.text + program.substring(m.to));
        if (run(60, "javac", "-J-XX:TieredStopAtLevel=1", "-d", place.toString(), file.toString()) != 0) return "no program";
        return run(60, "java", "-XX:TieredStopAtLevel=1", "-cp", place + ":build/test", test) == 0 ? "alive" : "killed";
    }

    private static int run(int seconds, String... command) throws IOException, InterruptedException {
        Process p = new ProcessBuilder(command).redirectErrorStream(true).redirectOutput(ProcessBuilder.Redirect.DISCARD).start();
        if (p.waitFor(seconds, TimeUnit.SECONDS)) return p.exitValue();
        p.destroyForcibly();
        return -1;
    }

    private void runAll() throws Exception {
        ExecutorService workers = Executors.newFixedThreadPool(Runtime.getRuntime().availableProcessors());
        List<Future<String>> fates = new ArrayList<>();
        for (int i = 0; i < mutants.size(); i++) {
            int number = i;
            fates.add(workers.submit(() -> fate(number)));
        }
        Map<String, Integer> counts = new TreeMap<>();
        String[] lines = program.split("\n");
        for (int i = 0; i < mutants.size(); i++) {
            Mutant m = mutants.get(i);
            String fate = fates.get(i).get();
            counts.merge(fate, 1, Integer::sum);
            int line = (int) program.substring(0, m.from).chars().filter(c -> c == '\n').count();
            if (fate.equals("alive")) System.out.println((line + 1) + ": <" + program.substring(m.from, m.to).trim() + "> as <" + m.text.trim() + "> in " + lines[line].trim());
        }
        workers.shutdown();
        System.out.println(counts);
    }

    public static void main(String[] args) throws Exception {
        Mutants all = new Mutants(Files.readString(PROGRAM), args.length > 0 ? args[0] : "BoundariesTest");
        all.findMutants();
        all.runAll();
    }
}
