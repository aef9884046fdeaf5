import java.lang.reflect.Field;
import java.lang.reflect.Method;
import java.lang.reflect.Modifier;
import java.net.URL;
import java.net.URLClassLoader;
import java.nio.file.Files;
import java.nio.file.Path;
import java.util.ArrayList;
import java.util.List;
import java.util.Set;
import java.util.TreeSet;
import java.util.regex.Matcher;
import java.util.regex.Pattern;
import java.util.stream.Stream;
import javax.tools.ToolProvider;

/** The example in README.md answers as it says, and README.md names each call and each constant. */
public final class ReadmeTest {
    private static final String[] PARTS = {
        "## How to use it", "### What a refused call answers", "## How to run its tests", ".ci/run"
    };
    /** The document's calls, each with the refusals that its promise names, in their order. */
    private static final Set<String> CALLS = Set.of("node(): ROOM", "arc(from, to, weight): UNKNOWN OUTSIDE ROOM",
            "weight(arc, weight): UNKNOWN OUTSIDE", "turn(arc): UNKNOWN", "clear():", "told(what): OUTSIDE",
            "least(from, to): UNKNOWN", "way(from, to, i): UNKNOWN", "within(from, to, k): UNKNOWN OUTSIDE",
            "rounds(from): UNKNOWN", "falling():", "ring(i):", "height(node): UNKNOWN STATE",
            "lifted(arc): UNKNOWN STATE", "spare(arc): UNKNOWN STATE", "order(i): STATE", "far(node): UNKNOWN STATE",
            "late(node): UNKNOWN STATE", "whole(): STATE", "critical(i): STATE");
    private static final Pattern EXAMPLE = Pattern.compile("(?s)```java\n(.*?)```");
    private static final String NEW_OBJECT = "SignedPaths x = new SignedPaths();";
    private static final Pattern CALL =
            Pattern.compile("(int \\w+ = )?(x\\.(\\w+)\\([^()]*\\));\\s+// (-?\\d+|[A-Z_]+)(: \\S.*)?");
    private static final Pattern CALL_ROW = Pattern.compile("(?m)^\\| `(\\w+\\([^()]*\\))` \\|.*\\|([^|]*)\\|$");
    private static final Pattern CONSTANT_ROW = Pattern.compile("(?m)^\\| `([A-Z_]+)` \\| (-?\\d+) \\|");

    private static int wrong = 0;

    public static void main(String[] args) throws Exception {
        String readme = Files.readString(Path.of("README.md")).replace("\r\n", "\n");
        checkExample(readme);
        checkCallRows(readme);
        checkConstantRows(readme);
        for (String part : PARTS) {
            check(readme.contains(part), "README.md does not have " + part);
        }
        System.out.println(wrong == 0 ? "README.md answers as it says" : wrong + " faults in README.md");
        if (wrong != 0) {
            System.exit(1);
        }
    }

    private static void check(boolean holds, String what) {
        if (!holds) {
            wrong++;
            System.out.println(what);
        }
    }

    // ---- the example

    private static void checkExample(String readme) throws Exception {
        Matcher example = EXAMPLE.matcher(readme);
        check(example.find(), "README.md has no example");
        if (wrong != 0) {
            return;
        }
        String code = example.group(1);
        check(!example.find(), "README.md has a second example, which is not looked at");
        Set<String> called = new TreeSet<>();
        List<String> statements = new ArrayList<>();
        for (String line : code.split("\n")) {
            if (!line.isBlank() && !line.equals(NEW_OBJECT)) {
                statements.add(statement(line, called));
            }
        }
        check(code.startsWith(NEW_OBJECT), "the example does not begin with a new object");
        check(called.equals(methods()), "the example calls " + called);
        if (wrong == 0) {
            runInPlace(statements);
        }
    }

    /** The line as it stands, and behind it a look at the answer that it tells. */
    private static String statement(String line, Set<String> called) {
        Matcher call = CALL.matcher(line);
        if (!call.matches()) {
            check(false, "no call with its answer: " + line);
            return "";
        }
        called.add(call.group(3));
        String answer = call.group(4);
        String due = Character.isLetter(answer.charAt(0)) ? "SignedPaths." + answer : answer;
        if (call.group(1) == null) {
            return "due(\"" + call.group(2) + "\", " + call.group(2) + ", " + due + ");";
        }
        String name = call.group(1).split(" ")[1];
        return call.group(1) + call.group(2) + "; due(\"" + call.group(2) + "\", " + name + ", " + due + ");";
    }

    private static void runInPlace(List<String> statements) throws Exception {
        Path place = Files.createTempDirectory("readme");
        try {
            run(statements, place);
        } finally {
            try (Stream<Path> files = Files.list(place)) {
                for (Path file : files.toList()) {
                    Files.delete(file);
                }
            }
            Files.delete(place);
        }
    }

    private static void run(List<String> statements, Path place) throws Exception {
        Path source = place.resolve("ReadmeExample.java");
        Files.writeString(source, source(statements));
        int exit = ToolProvider.getSystemJavaCompiler().run(null, null, null, "--release", "17", "-cp",
                System.getProperty("java.class.path"), "-d", place.toString(), source.toString());
        check(exit == 0, "the example does not compile");
        if (exit != 0) {
            return;
        }
        try (URLClassLoader loader = new URLClassLoader(new URL[] {place.toUri().toURL()})) {
            Class<?> example = loader.loadClass("ReadmeExample");
            wrong += (int) example.getMethod("run").invoke(null);
        }
    }

    private static String source(List<String> statements) {
        return "public final class ReadmeExample {\n"
                + "static int wrong = 0;\n"
                + "static void due(String call, int got, int want) {\n"
                + "if (got != want) { wrong++; System.out.println("
                + "\"README.md: \" + call + \" answered \" + got + \", told is \" + want); } }\n"
                + "public static int run() {\n"
                + NEW_OBJECT + "\n"
                + String.join("\n", statements) + "\n"
                + "return wrong; } }\n";
    }

    // ---- the tables

    private static void checkCallRows(String readme) {
        Set<String> told = new TreeSet<>();
        Matcher row = CALL_ROW.matcher(readme);
        while (row.find()) {
            told.add((row.group(1) + ": " + row.group(2).replaceAll("[`,]", "")).replaceAll("\\s+", " ").strip());
        }
        check(told.equals(new TreeSet<>(CALLS)), "README.md's calls, each with its refusals, are " + told);
    }

    private static Set<String> methods() {
        Set<String> names = new TreeSet<>();
        for (Method method : SignedPaths.class.getDeclaredMethods()) {
            if (Modifier.isPublic(method.getModifiers())) {
                names.add(method.getName());
            }
        }
        return names;
    }

    private static void checkConstantRows(String readme) throws IllegalAccessException {
        Set<String> told = new TreeSet<>();
        Matcher row = CONSTANT_ROW.matcher(readme);
        while (row.find()) {
            told.add(row.group(1) + " " + row.group(2));
        }
        Set<String> constants = new TreeSet<>();
        for (Field field : SignedPaths.class.getDeclaredFields()) {
            if (Modifier.isPublic(field.getModifiers())) {
                constants.add(field.getName() + " " + field.getInt(null));
            }
        }
        check(told.equals(constants), "README.md's constants are " + told);
    }
}
