import java.lang.reflect.Constructor;
import java.lang.reflect.Field;
import java.lang.reflect.Method;
import java.lang.reflect.Modifier;
import java.nio.file.Files;
import java.nio.file.Path;
import java.util.ArrayList;
import java.util.HashSet;
import java.util.List;
import java.util.Set;
import java.util.TreeSet;
import java.util.regex.Matcher;
import java.util.regex.Pattern;

/** The face is the document's, and the file keeps to those rules of the language that a text search can see. */
public final class FaceTest {
    private static final Checks CHECKS = new Checks("FaceTest");
    private static final Pattern DECLARED =
            Pattern.compile("public (?:(\\w+) )?(\\w+)\\(([^)]*)\\)(?: throws ([^;]*))?;");

    public static void main(String[] args) throws Exception {
        String document = Files.readString(Path.of(args[1]));
        String program = Files.readString(Path.of(args[0]));
        faceIsTheDocuments(document);
        noOtherMemberIsSeen();
        languageIsKept(program);
        methodsAreShort(program);
        CHECKS.finish();
    }

    private static void faceIsTheDocuments(String document) {
        int from = document.indexOf("public final class Hopyard {");
        String block = document.substring(from, document.indexOf("```", from));
        Set<String> want = new TreeSet<>();
        Matcher matcher = DECLARED.matcher(block);
        while (matcher.find()) {
            want.add(signature(matcher.group(1), matcher.group(2), types(matcher.group(3)),
                    matcher.group(4) == null ? List.of() : List.of(matcher.group(4).split(", "))));
        }
        Set<String> got = new TreeSet<>();
        for (Constructor<?> c : Hopyard.class.getDeclaredConstructors()) {
            got.add(signature(null, "Hopyard", names(c.getParameterTypes()), names(c.getExceptionTypes())));
        }
        for (Method m : Hopyard.class.getDeclaredMethods()) {
            if (Modifier.isPublic(m.getModifiers())) {
                got.add(signature(m.getReturnType().getSimpleName(), m.getName(), names(m.getParameterTypes()),
                        names(m.getExceptionTypes())));
            }
        }
        CHECKS.equal("number of declarations in the document", want.size(), 39);
        CHECKS.equal("the face", got, want);
    }

    private static String signature(String type, String name, List<String> parameters, List<String> exceptions) {
        return type + " " + name + parameters + " throws " + exceptions;
    }

    private static List<String> types(String parameters) {
        List<String> types = new ArrayList<>();
        for (String parameter : parameters.isEmpty() ? new String[0] : parameters.split(", ")) {
            types.add(parameter.split(" ")[0]);
        }
        return types;
    }

    private static List<String> names(Class<?>[] classes) {
        List<String> names = new ArrayList<>();
        for (Class<?> c : classes) {
            names.add(c.getSimpleName());
        }
        return names;
    }

    private static void noOtherMemberIsSeen() {
        CHECKS.equal("public and final", Modifier.isPublic(Hopyard.class.getModifiers())
                && Modifier.isFinal(Hopyard.class.getModifiers()), true);
        Set<String> faceNames = new HashSet<>();
        for (Method m : Hopyard.class.getDeclaredMethods()) {
            if (Modifier.isPublic(m.getModifiers())) {
                faceNames.add(m.getName());
            }
        }
        for (Field f : Hopyard.class.getDeclaredFields()) {
            CHECKS.equal("field " + f.getName() + " is private", Modifier.isPrivate(f.getModifiers()), true);
        }
        List<Class<?>> all = new ArrayList<>(List.of(Hopyard.class.getDeclaredClasses()));
        CHECKS.equal("some twelve classes at the most", all.size() < 12, true);
        all.add(Hopyard.class);
        for (Class<?> c : all) {
            int instanceFields = 0;
            for (Field f : c.getDeclaredFields()) {
                boolean isStatic = Modifier.isStatic(f.getModifiers());
                instanceFields += isStatic ? 0 : 1;
                CHECKS.equal(f + " is no static state", !isStatic || Modifier.isFinal(f.getModifiers()), true);
            }
            CHECKS.equal(c + " has twenty fields at the most", instanceFields <= 20, true);
            for (Method m : c.getDeclaredMethods()) {
                CHECKS.equal(m + " takes seven parameters at the most", m.getParameterCount() <= 7, true);
                if (c != Hopyard.class || !Modifier.isPublic(m.getModifiers())) {
                    CHECKS.equal(m + " is private or inside, by no name of the face",
                            !faceNames.contains(m.getName())
                                    && (c != Hopyard.class || Modifier.isPrivate(m.getModifiers())), true);
                }
            }
        }
    }

    private static void languageIsKept(String program) {
        for (String word : List.of("->", "::", "catch", "finally", "synchronized", "assert", "package ", "System.",
                "Math.random", "hashCode", "toString", ".equals", "instanceof", "Exact(", "Object", "static {",
                "Collections", "Integer.", "Character", "Arrays", "Optional", "Stream", "\" +", "+ \"")) {
            CHECKS.equal("the program holds '" + word + "'", program.contains(word), false);
        }
        Matcher imports = Pattern.compile("import ([\\w.*]+);").matcher(program);
        while (imports.find()) {
            CHECKS.equal("import " + imports.group(1), Set.of("java.util.ArrayList", "java.util.List",
                    "java.util.NoSuchElementException").contains(imports.group(1)), true);
        }
        for (char sign : program.toCharArray()) {
            if (sign > 126) {
                CHECKS.equal("a sign of the program", (int) sign, "one of 1 to 126");
            }
        }
    }

    /** From the line that opens a method to the line with its closing brace, which stands below it. */
    private static void methodsAreShort(String program) {
        List<String> lines = List.of(program.split("\n"));
        int methods = 0;
        for (int from = 0; from < lines.size(); from++) {
            Matcher opened = Pattern.compile("( {4}| {8})(?! )[^=]*\\(.*").matcher(lines.get(from));
            if (opened.matches() && !lines.get(from).matches(" *(if|for|while|\\*|//).*|.*;")) {
                int to = from;
                while (to < lines.size() && !lines.get(to).equals(opened.group(1) + "}")) {
                    to++;
                }
                CHECKS.equal("'" + lines.get(from).strip() + "' has sixty lines at the most", to - from < 60, true);
                methods++;
            }
        }
        CHECKS.equal("methods were found", methods > 80, true);
    }
}
