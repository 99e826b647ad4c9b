import java.io.IOException;
import java.net.URL;
import java.net.URLClassLoader;
import java.nio.file.Files;
import java.nio.file.Path;
import java.util.ArrayList;
import java.util.LinkedHashMap;
import java.util.List;
import java.util.Map;
import java.util.TreeSet;
import java.util.Set;
import java.util.regex.Matcher;
import java.util.regex.Pattern;
import javax.tools.ToolProvider;

/** The test of each sentence sees it when the sentence is broken: src/test/breaks.txt tells how each one is. */
public final class BreakTest {
    private static final Checks CHECKS = new Checks("BreakTest");
    private static final Path BREAKS = Path.of("src/test/breaks.txt");

    /** A change of the program, and the sentences that it breaks. */
    private static final class Break {
        private final String old;
        private final String changed;
        private final List<String> sentences = new ArrayList<>();

        private Break(String old, String changed) {
            this.old = old;
            this.changed = changed;
        }
    }

    public static void main(String[] args) throws Exception {
        String program = Files.readString(Path.of(args[0]));
        Map<String, Break> breaks = readBreaks();
        Set<String> broken = new TreeSet<>();
        Path place = Files.createTempDirectory("breaks");
        int number = 0;
        for (Break one : breaks.values()) {
            broken.addAll(one.sentences);
            Path folder = place.resolve("" + number++);
            if (compile(program, one, folder)) {
                tryTests(one, folder);
            }
            delete(folder);
        }
        Files.delete(place);
        CHECKS.equal("sentences that are broken", broken, new TreeSet<>(Sentences.all().tests.keySet()));
        System.out.println("BreakTest: " + breaks.size() + " changes of the program");
        CHECKS.finish();
    }

    private static Map<String, Break> readBreaks() throws IOException {
        Map<String, Break> breaks = new LinkedHashMap<>();
        String sentence = "";
        String old = "";
        for (String line : Files.readAllLines(BREAKS)) {
            if (line.startsWith("= ")) {
                sentence = line.substring(2);
            } else if (line.startsWith("- ")) {
                old = line.substring(2);
            } else if (line.startsWith("+")) {
                Break one = new Break(old, line.substring(1).strip());
                breaks.putIfAbsent(old + "\n" + one.changed, one);
                breaks.get(old + "\n" + one.changed).sentences.add(sentence);
            }
        }
        return breaks;
    }

    /** Whatever blanks and ends of lines stand between the words. */
    private static Pattern patternOf(String text) {
        StringBuilder pattern = new StringBuilder();
        for (String word : text.split(" ")) {
            pattern.append(pattern.length() == 0 ? "" : "\\s+").append(Pattern.quote(word));
        }
        return Pattern.compile(pattern.toString());
    }

    private static boolean compile(String program, Break one, Path folder) throws IOException {
        Matcher place = patternOf(one.old).matcher(program);
        long places = place.results().count();
        CHECKS.equal("places of the program where '" + one.old + "' stands", places, 1L);
        if (places != 1) {
            return false;
        }
        Files.createDirectory(folder);
        Path source = folder.resolve("Hopyard.java");
        Files.writeString(source, place.reset().replaceFirst(Matcher.quoteReplacement(one.changed)));
        int result = ToolProvider.getSystemJavaCompiler().run(null, null, null, "-nowarn", "-encoding", "UTF-8",
                "-cp", folder.toString(), "-d", folder.toString(), source.toString());
        CHECKS.equal("'" + one.changed + "' compiles", result, 0);
        return result == 0;
    }

    /** Loads the tests anew, so that they meet the changed program. */
    private static void tryTests(Break one, Path folder) throws IOException {
        URL tests = BreakTest.class.getProtectionDomain().getCodeSource().getLocation();
        URL[] places = {folder.toUri().toURL(), tests};
        try (URLClassLoader loader = new URLClassLoader(places, ClassLoader.getPlatformClassLoader())) {
            for (String sentence : one.sentences) {
                CHECKS.equal("the test of '" + sentence + "' sees '" + one.old + "' changed to '" + one.changed + "'",
                        isSeen(loader, sentence), true);
            }
        }
    }

    private static boolean isSeen(ClassLoader loader, String sentence) {
        try {
            Object wrongs = loader.loadClass("SentenceTest").getMethod("wrongsOf", String.class).invoke(null, sentence);
            return !wrongs.equals(0);
        } catch (ReflectiveOperationException e) {
            // A test that ends by an exception has seen it too.
            return e.getCause() instanceof RuntimeException && isFromProgram(e.getCause());
        }
    }

    private static boolean isFromProgram(Throwable thrown) {
        for (StackTraceElement frame : thrown.getStackTrace()) {
            if (frame.getClassName().startsWith("Hopyard")) {
                return true;
            }
        }
        return false;
    }

    private static void delete(Path folder) throws IOException {
        if (Files.exists(folder)) {
            try (var files = Files.list(folder)) {
                for (Path file : files.toList()) {
                    Files.delete(file);
                }
            }
            Files.delete(folder);
        }
    }
}
