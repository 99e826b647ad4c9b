import java.io.IOException;
import java.lang.reflect.Method;
import java.lang.reflect.Modifier;
import java.net.URL;
import java.net.URLClassLoader;
import java.nio.file.Files;
import java.nio.file.Path;
import java.util.ArrayList;
import java.util.List;
import java.util.regex.Matcher;
import java.util.regex.Pattern;
import javax.tools.ToolProvider;

/** README.md tells the truth: its examples answer what stands behind them, and it tells every call and every test. */
public final class ReadmeTest {
    private static final Checks CHECKS = new Checks("ReadmeTest");
    private static final Path README = Path.of("README.md");
    private static final Pattern BLOCK = Pattern.compile("```java\n(.*?)```", Pattern.DOTALL);
    /** A call, perhaps one whose answer gets a name, and behind it the answer and perhaps some words. */
    private static final Pattern EXAMPLE =
            Pattern.compile("(?:(int|char|float) (\\w+) = )?(brewery\\..*); +// ([^:]+)(?:: .*)?");
    private static final List<String> THROWN = List.of("IndexOutOfBoundsException", "IllegalArgumentException",
            "UnsupportedOperationException", "IllegalStateException", "NoSuchElementException");

    public static void main(String[] args) throws Exception {
        String readme = Files.readString(README);
        examplesHold(readme);
        everyCallIsTold(readme);
        exceptionsAreToldInTheirOrder(readme);
        everyTestIsTold(readme);
        CHECKS.finish();
    }

    /** All examples are one run of calls on one object. */
    private static void examplesHold(String readme) throws Exception {
        StringBuilder body = new StringBuilder();
        List<String> lines = new ArrayList<>();
        List<String> due = new ArrayList<>();
        Matcher blocks = BLOCK.matcher(readme);
        while (blocks.find()) {
            for (String line : blocks.group(1).split("\n")) {
                Matcher example = EXAMPLE.matcher(line);
                if (example.matches()) {
                    body.append(statement(example));
                    lines.add(line);
                    due.add(example.group(4).replace("'", ""));
                } else {
                    CHECKS.equal("a line without an answer", line, "Hopyard brewery = new Hopyard();");
                    body.append(line).append('\n');
                }
            }
        }
        List<?> got = answersOf(body.toString());
        for (int i = 0; i < lines.size(); i++) {
            CHECKS.equal(lines.get(i), i < got.size() ? got.get(i) : "nothing", due.get(i));
        }
        CHECKS.equal("the examples are some", lines.size() > 20, true);
    }

    private static String statement(Matcher example) {
        String call = example.group(3);
        if (example.group(2) != null) {
            return example.group(1) + " " + example.group(2) + " = " + call + ";\n"
                    + "answers.add(String.valueOf(" + example.group(2) + "));\n";
        }
        return "try { answers.add(String.valueOf(" + call + ")); }\n"
                + "catch (RuntimeException e) { answers.add(\"throws \" + e.getClass().getSimpleName()); }\n";
    }

    private static List<?> answersOf(String body) throws Exception {
        Path folder = Files.createTempDirectory("readme");
        Path source = folder.resolve("Example.java");
        Files.writeString(source, "public final class Example {\n"
                + "public static java.util.List<String> answers() {\n"
                + "java.util.List<String> answers = new java.util.ArrayList<>();\n"
                + body + "return answers;\n}\n}\n");
        URL program = Hopyard.class.getProtectionDomain().getCodeSource().getLocation();
        int result = ToolProvider.getSystemJavaCompiler().run(null, null, null, "-encoding", "UTF-8",
                "-cp", Path.of(program.toURI()).toString(), "-d", folder.toString(), source.toString());
        CHECKS.equal("the examples compile", result, 0);
        List<?> answers = List.of();
        if (result == 0) {
            try (URLClassLoader loader = new URLClassLoader(new URL[] {folder.toUri().toURL()})) {
                answers = (List<?>) loader.loadClass("Example").getMethod("answers").invoke(null);
            }
        }
        delete(folder);
        return answers;
    }

    private static void delete(Path folder) throws IOException {
        try (var files = Files.list(folder)) {
            for (Path file : files.toList()) {
                Files.delete(file);
            }
        }
        Files.delete(folder);
    }

    private static void everyCallIsTold(String readme) {
        for (Method method : Hopyard.class.getDeclaredMethods()) {
            if (Modifier.isPublic(method.getModifiers())) {
                Matcher told = Pattern.compile("\\| .*`" + method.getName() + "\\(([^)]*)\\)`.* \\| .* \\|").matcher(readme);
                boolean found = told.find();
                CHECKS.equal("the table tells " + method.getName(), found, true);
                if (found) {
                    int parameters = told.group(1).isEmpty() ? 0 : told.group(1).split(", ").length;
                    CHECKS.equal("parameters of " + method.getName(), parameters, method.getParameterCount());
                }
            }
        }
    }

    /** The table says that the first one is thrown; so each method's own list must go down the table. */
    private static void exceptionsAreToldInTheirOrder(String readme) {
        int place = 0;
        for (String name : THROWN) {
            int next = readme.indexOf("| `" + name + "` |");
            CHECKS.equal(name + " stands in the table, behind the one before", next > place, true);
            place = next;
        }
        for (Method method : Hopyard.class.getDeclaredMethods()) {
            int last = -1;
            for (Class<?> thrown : method.getExceptionTypes()) {
                int row = THROWN.indexOf(thrown.getSimpleName());
                CHECKS.equal(method.getName() + " throws by the table's order " + thrown, row > last, true);
                last = row;
            }
        }
    }

    private static void everyTestIsTold(String readme) throws IOException {
        try (var files = Files.list(Path.of("src/test/java"))) {
            for (Path file : files.toList()) {
                String name = file.getFileName().toString().replace(".java", "");
                if (name.endsWith("Test")) {
                    CHECKS.equal("the page tells " + name, readme.contains("- `" + name + "`: "), true);
                }
            }
        }
    }
}
