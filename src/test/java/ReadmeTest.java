import java.io.IOException;
import java.net.URL;
import java.net.URLClassLoader;
import java.nio.file.Files;
import java.nio.file.Path;
import java.util.ArrayList;
import java.util.List;
import java.util.Set;
import java.util.TreeSet;
import java.util.regex.Matcher;
import java.util.regex.Pattern;
import java.util.stream.Stream;

/**
 * README.md keeps its word: the calls of its example answer what stands behind them, the commands
 * that it names are those of .ci/run, and it names the tests that there are.
 */
public final class ReadmeTest {
    private static final Checks CHECKS = new Checks();
    private static final Pattern CALL = Pattern.compile("(?m)^ {8}(x\\.\\w+\\(.*?\\)); *(?://(.*))?$");
    private static final Pattern ANSWER = Pattern.compile(" (-?\\d+)\\b.*");

    public static void main(String[] args) throws Exception {
        String readme = Files.readString(Path.of("README.md"));
        checkExample(blocks(readme, "java"));
        checkCommands(blocks(readme, "sh"), Files.readString(Path.of(".ci", "run")));
        checkNames(readme);
        CHECKS.end("ReadmeTest");
    }

    /** The example, which is loaded apart, tells its answers here. */
    public static void due(String call, long got, long want) {
        CHECKS.due("README.md's example: " + call, got, want);
    }

    private static List<String> blocks(String readme, String language) {
        List<String> found = new ArrayList<>();
        Matcher m = Pattern.compile("(?ms)^```" + language + "\\n(.*?)^```$").matcher(readme);
        while (m.find()) {
            found.add(m.group(1));
        }
        return found;
    }

    private static void checkExample(List<String> blocks) throws Exception {
        CHECKS.due("examples in README.md", blocks.size(), 1);
        Path dir = Files.createTempDirectory("readme");
        try {
            Path source = dir.resolve("Example.java");
            Files.writeString(source, blocks.get(0));
            CHECKS.due("the example compiles as it stands", compiled(source, dir), 0);
            Files.writeString(source, asking(blocks.get(0)));
            CHECKS.due("the example compiles with its answers", compiled(source, dir), 0);
            int before = CHECKS.asked();
            run(dir);
            CHECKS.due("answers of the example", CHECKS.asked() - before, calls(mainOf(blocks.get(0))));
        } finally {
            remove(dir);
        }
    }

    /** The example up to the end of its main method. */
    private static String mainOf(String example) {
        return example.substring(0, example.indexOf("\n    }\n"));
    }

    private static long calls(String example) {
        return CALL.matcher(example).results().count();
    }

    /** The example with each call of its main method held against the answer that stands behind it. */
    private static String asking(String example) {
        String main = mainOf(example);
        return CALL.matcher(main).replaceAll(m -> {
            Matcher answer = ANSWER.matcher(m.group(2) == null ? "" : m.group(2));
            CHECKS.due("an answer stands behind " + m.group(1), answer.matches() ? 1 : 0, 1);
            String want = answer.matches() ? answer.group(1) : "0";
            return Matcher.quoteReplacement(
                "        ReadmeTest.due(\"" + m.group(1) + "\", " + m.group(1) + ", " + want + "L);");
        }) + example.substring(main.length());
    }

    private static int compiled(Path source, Path dir) throws IOException, InterruptedException {
        return new ProcessBuilder("javac", "-Xlint:all", "-cp", System.getProperty("java.class.path"), "-d",
            dir.toString(), source.toString()).inheritIO().start().waitFor();
    }

    private static void run(Path dir) throws Exception {
        try (URLClassLoader loader = new URLClassLoader(new URL[] {dir.toUri().toURL()})) {
            loader.loadClass("Example").getMethod("main", String[].class).invoke(null, (Object) new String[0]);
        }
    }

    private static void remove(Path dir) throws IOException {
        try (Stream<Path> files = Files.list(dir)) {
            for (Path file : files.toList()) {
                Files.delete(file);
            }
        }
        Files.delete(dir);
    }

    private static void checkCommands(List<String> blocks, String script) throws IOException {
        Set<String> ran = new TreeSet<>();
        script.lines().map(ReadmeTest::bareCommand).forEach(ran::add);
        ran.add(".ci/run");
        List<String> names = testsIn(Path.of("src", "test", "java"));
        int single = 0;
        for (String block : blocks) {
            // Which tests there are under ../shared/tests is not for the project to say.
            boolean shared = block.contains("$shared");
            for (String line : block.split("\n")) {
                boolean isName = line.startsWith("name=") && (shared || names.contains(line.substring(5)));
                CHECKS.due("README.md's command is one of .ci/run: " + line, isName || ran.contains(line) ? 1 : 0, 1);
                single += line.startsWith("java ") ? 1 : 0;
            }
        }
        CHECKS.due("README.md names .ci/run by itself", blocks.contains(".ci/run\n") ? 1 : 0, 1);
        CHECKS.due(".ci/run may be run", Files.isExecutable(Path.of(".ci", "run")) ? 1 : 0, 1);
        CHECKS.due("README.md's commands for single tests", single, 2);
    }

    /** A line of the script without what it does with the command's exit code. */
    private static String bareCommand(String line) {
        return line.strip().replaceFirst("^&& ", "").replaceFirst("( \\|\\| status=\\$\\?| \\\\)$", "");
    }

    private static List<String> testsIn(Path dir) throws IOException {
        try (Stream<Path> files = Files.list(dir)) {
            return files.map(file -> file.getFileName().toString()).filter(name -> name.endsWith("Test.java"))
                .map(name -> name.substring(0, name.length() - ".java".length())).sorted().toList();
        }
    }

    private static void checkNames(String readme) throws IOException {
        List<String> found = testsIn(Path.of("src", "test", "java"));
        Set<String> named = new TreeSet<>();
        Matcher m = Pattern.compile("`(\\w+Test)`").matcher(readme);
        while (m.find()) {
            named.add(m.group(1));
        }
        CHECKS.due("tests that README.md names", named.toString(), found.toString());
    }
}
