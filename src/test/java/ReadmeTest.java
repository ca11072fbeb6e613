import java.io.File;
import java.io.IOException;
import java.lang.reflect.Method;
import java.net.URL;
import java.net.URLClassLoader;
import java.nio.file.Files;
import java.nio.file.Path;
import java.util.ArrayList;
import java.util.Arrays;
import java.util.Comparator;
import java.util.List;
import java.util.Map;
import java.util.TreeSet;
import java.util.regex.Matcher;
import java.util.regex.Pattern;
import java.util.stream.Stream;
import javax.tools.ToolProvider;

/** README.md: the example answers as it says, and the tables tell every method and every test. */
public final class ReadmeTest {
    /** A call of the example: the variable that keeps the answer, if any, the call, the answer. */
    private static final Pattern CALL =
        Pattern.compile("(?:int (\\w+) = )?(x\\.\\w+\\(.*?\\));\\s+// ((?:throws )?[-\\w]+)(: .*)?");
    private static final Pattern ROW =
        Pattern.compile("\\| `(\\w+)\\(([^)]*)\\)` \\| [^|]+ \\| (yes|no) \\| ([^|]*)\\|");
    private static final Map<String, String> SHORT = Map.of("bounds", Check.BOUNDS, "argument",
        Check.ARGUMENT, "state", Check.STATE);
    private static final List<String> UNDOABLE = List.of("addNode", "add", "remove", "addSeries",
        "setSizes", "rebuild", "rebuildAll", "search");

    private static final Check check = new Check("ReadmeTest");

    public static void main(String[] arguments) throws Exception {
        String readme = Files.readString(Path.of("README.md"));
        example(readme);
        methods(readme);
        tests(readme);
        check.end();
    }

    // ---- the example

    private static void example(String readme) throws Exception {
        Matcher block = Pattern.compile("(?s)```java\n(.*?)```").matcher(readme);
        check.same("there is an example", block.find(), true);
        StringBuilder body = new StringBuilder();
        List<String> due = new ArrayList<>();
        for (String line : block.group(1).split("\n")) {
            Matcher call = CALL.matcher(line);
            if (call.matches()) {
                body.append(instead(call));
                due.add(call.group(3));
            } else {
                check.same("a line without an answer", line.isEmpty()
                    || line.equals("BridgedCatalogs x = new BridgedCatalogs();"), true);
                body.append(line);
            }
            body.append('\n');
        }
        check.same("answers of the example", answers(body.toString()), due);
        for (Method method : BridgedCatalogs.class.getDeclaredMethods()) {
            boolean shown = block.group(1).contains("x." + method.getName() + "(");
            check.same("the example shows " + method.getName(),
                shown || method.toString().startsWith("private"), true);
        }
    }

    /** The call with its answer kept; a variable that it declares stays for the lines below. */
    private static String instead(Matcher call) {
        if (call.group(1) != null) {
            return "int " + call.group(1) + " = " + call.group(2) + "; due.add(\"\" + "
                + call.group(1) + ");";
        }
        return "try { due.add(\"\" + " + call.group(2) + "); } catch (RuntimeException e) {"
            + " due.add(\"throws \" + e.getClass().getSimpleName()); }";
    }

    private static Object answers(String body) throws Exception {
        Path made = Files.createTempDirectory("example");
        try {
            Path file = Files.writeString(made.resolve("Example.java"),
                "public final class Example {\n"
                + "public static java.util.List<String> answers() {\n"
                + "java.util.List<String> due = new java.util.ArrayList<>();\n"
                + body + "return due;\n}\n}\n");
            String path = System.getProperty("java.class.path");
            int failed = ToolProvider.getSystemJavaCompiler()
                .run(null, null, null, "-cp", path, "-d", made.toString(), file.toString());
            check.same("the example compiles", failed, 0);
            URL[] places = {made.toUri().toURL()};
            try (URLClassLoader loader = new URLClassLoader(places)) {
                return loader.loadClass("Example").getMethod("answers").invoke(null);
            }
        } finally {
            remove(made);
        }
    }

    private static void remove(Path directory) throws IOException {
        try (Stream<Path> paths = Files.walk(directory)) {
            paths.sorted(Comparator.reverseOrder()).map(Path::toFile).forEach(File::delete);
        }
    }

    // ---- the tables

    private static void methods(String readme) {
        TreeSet<String> told = new TreeSet<>();
        Matcher row = ROW.matcher(readme);
        while (row.find()) {
            int many = row.group(2).isEmpty() ? 0 : row.group(2).split(", ").length;
            told.add(face(row.group(1), many, exceptions(row.group(4).trim())));
            check.same("undoable: " + row.group(1), row.group(3).equals("yes"),
                UNDOABLE.contains(row.group(1)));
        }
        TreeSet<String> there = new TreeSet<>();
        for (Method method : BridgedCatalogs.class.getDeclaredMethods()) {
            if (!method.toString().startsWith("private")) {
                there.add(face(method.getName(), method.getParameterCount(),
                    Arrays.stream(method.getExceptionTypes()).map(Class::getSimpleName).toList()));
            }
        }
        check.same("methods in the table", told, there);
    }

    private static String face(String name, int parameters, List<String> exceptions) {
        return name + " " + parameters + " " + exceptions;
    }

    private static List<String> exceptions(String column) {
        return column.isEmpty() ? List.of()
            : Arrays.stream(column.split(", ")).map(SHORT::get).toList();
    }

    private static void tests(String readme) {
        TreeSet<String> told = new TreeSet<>();
        Matcher row = Pattern.compile("\\| `(\\w+Test)` \\|").matcher(readme);
        while (row.find()) {
            told.add(row.group(1) + ".java");
        }
        String[] files = new File("src/test/java").list((place, name) -> name.endsWith("Test.java"));
        check.same("tests in the table", told, new TreeSet<>(Arrays.asList(files)));
    }
}
