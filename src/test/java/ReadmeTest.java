import java.io.IOException;
import java.lang.invoke.MethodHandles;
import java.lang.reflect.Method;
import java.lang.reflect.Modifier;
import java.nio.file.Files;
import java.nio.file.Path;
import java.util.ArrayList;
import java.util.List;
import java.util.regex.Matcher;
import java.util.regex.Pattern;
import java.util.stream.Stream;
import javax.tools.JavaCompiler;
import javax.tools.ToolProvider;

/** README.md: its examples answer as it says, and no call or test is left out. .ci/run starts it in the checkout. */
public final class ReadmeTest {
    /** A line of an example: what is called, and behind // what it answers. */
    private static final Pattern ANSWERED = Pattern.compile("(?:int (\\w+) = )?(x\\..*);\\s+// (-?\\d+)(?:: .*)?");
    private static final String MADE = "CueBoard x = new CueBoard();";
    private static final int CALLS = 512;

    private ReadmeTest() {
    }

    public static void main(String[] args) throws Exception {
        List<String> page = Files.readAllLines(Path.of("README.md"));
        runExamples(page);
        namesEveryCall(page);
        namesEveryTest(page);
        Tally.end();
    }

    private static void runExamples(List<String> page) throws Exception {
        List<String> body = new ArrayList<>();
        int calls = 0;
        for (String line : exampleLines(page)) {
            Matcher matcher = ANSWERED.matcher(line);
            if (matcher.matches()) {
                body.add(statement(matcher));
                calls += matcher.group(2).split("x\\.", -1).length - 1;
            } else {
                Tally.due("the README says what this answers: " + line, line.equals(MADE) ? 1 : 0, 1);
                body.add(line);
            }
        }
        Tally.due("the README has examples", calls > 0 ? 1 : 0, 1);
        Tally.due("one board is called 512 times at most", calls <= CALLS ? 1 : 0, 1);
        runCompiled(body);
    }

    private static List<String> exampleLines(List<String> page) {
        List<String> lines = new ArrayList<>();
        boolean inside = false;
        for (String line : page) {
            if (line.startsWith("```")) {
                inside = line.equals("```java");
            } else if (inside && !line.isBlank()) {
                lines.add(line);
            }
        }
        return lines;
    }

    private static String statement(Matcher matcher) {
        String name = matcher.group(1);
        String call = matcher.group(2);
        String kept = name == null ? "" : "int " + name + " = " + call + "; ";
        String got = name == null ? call : name;
        return kept + "Tally.due(\"README: " + call.replace("\"", "\\\"") + "\", " + got + ", " + matcher.group(3) + ");";
    }

    private static void runCompiled(List<String> body) throws Exception {
        JavaCompiler compiler = ToolProvider.getSystemJavaCompiler();
        Tally.due("there is a compiler", compiler == null ? 0 : 1, 1);
        if (compiler == null) {
            return;
        }
        Path folder = Files.createTempDirectory("readme");
        try {
            Path source = folder.resolve("Example.java");
            Files.writeString(source, "final class Example {\n    static void run() {\n" + String.join("\n", body) + "\n    }\n}\n");
            int code = compiler.run(null, null, null, "-d", folder.toString(), "-cp", System.getProperty("java.class.path"),
                source.toString());
            Tally.due("the examples of the README compile", code, 0);
            if (code == 0) {
                define(Files.readAllBytes(folder.resolve("Example.class")));
            }
        } finally {
            delete(folder);
        }
    }

    private static void define(byte[] compiled) throws Exception {
        // In the tests' own package and loader: Tally and CueBoard are the ones that this test uses.
        Class<?> example = MethodHandles.lookup().defineClass(compiled);
        Method run = example.getDeclaredMethod("run");
        run.invoke(null);
    }

    private static void delete(Path folder) throws IOException {
        try (Stream<Path> files = Files.list(folder)) {
            for (Path each : files.toList()) {
                Files.delete(each);
            }
        }
        Files.delete(folder);
    }

    private static void namesEveryCall(List<String> page) {
        String text = String.join("\n", page);
        for (Method method : CueBoard.class.getDeclaredMethods()) {
            if (Modifier.isPublic(method.getModifiers())) {
                Tally.due("the README names " + method.getName(), text.contains("`" + method.getName() + "`") ? 1 : 0, 1);
            }
        }
    }

    /** The table has a row for each test, and none for what is no test. */
    private static void namesEveryTest(List<String> page) throws IOException {
        List<String> rows = new ArrayList<>();
        for (String line : page) {
            Matcher matcher = Pattern.compile("\\| (\\w+Test) \\|.*").matcher(line);
            if (matcher.matches()) {
                rows.add(matcher.group(1));
            }
        }
        List<String> tests = new ArrayList<>();
        try (Stream<Path> files = Files.list(Path.of("src/test/java"))) {
            for (Path each : files.toList()) {
                String name = each.getFileName().toString();
                if (name.endsWith("Test.java")) {
                    tests.add(name.substring(0, name.length() - ".java".length()));
                }
            }
        }
        for (String test : tests) {
            Tally.due("rows of the README for " + test, rows.stream().filter(test::equals).count(), 1);
        }
        Tally.due("rows of tests in the README", rows.size(), tests.size());
    }
}
