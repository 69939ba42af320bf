import java.io.IOException;
import java.lang.reflect.Method;
import java.lang.reflect.Modifier;
import java.net.URL;
import java.net.URLClassLoader;
import java.nio.file.Files;
import java.nio.file.Path;
import java.util.ArrayList;
import java.util.List;
import java.util.regex.Matcher;
import java.util.regex.Pattern;
import java.util.stream.Stream;
import javax.tools.JavaCompiler;
import javax.tools.ToolProvider;

/** What README.md says: its examples are run in their order, and it tells every call and every finding. */
public final class ReadmeTest {
    private static final Path README = Path.of("README.md");
    private static final String[] FINDINGS = {"BEYOND", "FULL", "KIND", "NONE", "STATE", "MISSING", "SIZE"};
    /** A call, perhaps kept in a variable, and the answer that the remark behind it begins with. */
    private static final Pattern ANSWERED =
        Pattern.compile("(?:int (\\w+) = )?(league\\.(\\w+)\\(.*\\)); +// (-?\\d+)(?:: .*)?");
    private static int wrong = 0;

    private static void check(boolean right, String what) {
        if (!right) {
            wrong++;
            System.out.println("wrong: " + what);
        }
    }

    /** Called by the program that is made of the examples. */
    public static void due(String line, long want, long got) {
        check(got == want, line + " (the answer was " + got + ")");
    }

    private static List<String> exampleLines(String readme) {
        List<String> lines = new ArrayList<>();
        Matcher block = Pattern.compile("(?ms)^```java\\n(.*?)^```").matcher(readme);
        while (block.find()) {
            lines.addAll(block.group(1).lines().filter(line -> !line.isBlank()).toList());
        }
        return lines;
    }

    private static String literal(String text) {
        return '"' + text.replace("\\", "\\\\").replace("\"", "\\\"") + '"';
    }

    private static String programOf(List<String> lines) {
        StringBuilder code = new StringBuilder("public final class Examples {\n    public static void run() {\n");
        for (String line : lines) {
            Matcher m = ANSWERED.matcher(line.strip());
            if (!m.matches()) {
                code.append(line).append('\n');
                continue;
            }
            String got = m.group(2);
            if (m.group(1) != null) {
                code.append("int ").append(m.group(1)).append(" = ").append(got).append(";\n");
                got = m.group(1);
            }
            code.append("ReadmeTest.due(").append(literal(line.strip())).append(", ").append(m.group(4))
                .append("L, ").append(got).append(");\n");
        }
        return code.append("    }\n}\n").toString();
    }

    private static void runExamples(List<String> lines) throws Exception {
        Path place = Files.createTempDirectory("readme");
        Path source = place.resolve("Examples.java");
        Files.writeString(source, programOf(lines));
        JavaCompiler compiler = ToolProvider.getSystemJavaCompiler();
        int failed = compiler.run(null, null, null, "-d", place.toString(),
            "-cp", System.getProperty("java.class.path"), source.toString());
        check(failed == 0, "the examples do not compile");
        if (failed == 0) {
            try (URLClassLoader loader = new URLClassLoader(new URL[] {place.toUri().toURL()})) {
                loader.loadClass("Examples").getMethod("run").invoke(null);
            }
        }
        try (Stream<Path> files = Files.list(place)) {
            for (Path file : files.toList()) {
                Files.delete(file);
            }
        }
        Files.delete(place);
    }

    /** Each call has a row of its own with all its parameters, and an example that tells its answer. */
    private static void tellsEveryCall(String readme, List<String> lines) {
        for (Method m : TwiceRunning.class.getDeclaredMethods()) {
            if (!Modifier.isPublic(m.getModifiers())) {
                continue;
            }
            String list = m.getParameterCount() == 0 ? "" : "\\w+" + ", \\w+".repeat(m.getParameterCount() - 1);
            check(Pattern.compile("(?m)^\\| `" + m.getName() + "\\(" + list + "\\)`").matcher(readme).find(),
                "no row for " + m);
            check(lines.stream().map(line -> ANSWERED.matcher(line.strip()))
                .anyMatch(a -> a.matches() && a.group(3).equals(m.getName())), "no example for " + m);
        }
    }

    private static void tellsEveryFinding(String readme) {
        for (int f = 0; f < FINDINGS.length; f++) {
            check(readme.contains("| " + FINDINGS[f] + " | " + (-1000001 - f) + " |"), "no row for " + FINDINGS[f]);
        }
    }

    private static void tellsEveryTest(String readme) throws IOException {
        check(readme.contains(".ci/run"), "not how the tests are run");
        try (Stream<Path> files = Files.list(Path.of("src/test/java"))) {
            for (Path file : files.toList()) {
                String name = file.getFileName().toString().replace(".java", "");
                check(readme.contains("- `" + name + "`:"), "no word on " + name);
            }
        }
    }

    public static void main(String[] args) throws Exception {
        String readme = Files.readString(README);
        List<String> lines = exampleLines(readme);
        tellsEveryCall(readme, lines);
        tellsEveryFinding(readme);
        tellsEveryTest(readme);
        runExamples(lines);
        System.out.println(wrong == 0 ? "README.md tells what is so" : wrong + " things in README.md are not so");
        if (wrong != 0) {
            System.exit(1);
        }
    }
}
