import java.io.IOException;
import java.lang.reflect.Method;
import java.lang.reflect.Modifier;
import java.net.URL;
import java.net.URLClassLoader;
import java.nio.file.Files;
import java.nio.file.Path;
import java.util.ArrayList;
import java.util.List;
import java.util.regex.Matcher;
import java.util.regex.Pattern;
import java.util.stream.Stream;
import javax.tools.JavaCompiler;
import javax.tools.ToolProvider;

/**
 * That README.md tells the truth: its Java is put together as one program, compiled and run, and each
 * answer that stands behind a call as a comment is looked at; no call and no test is left out there.
 */
public final class ReadmeTest {
    private static final Check CHECK = new Check();
    // What the program of README.md is called there.
    private static final String PROGRAM = "Jersey";
    private static final Pattern STATEMENT =
        Pattern.compile("(?s)(?:(\\w+) (\\w+) = )?(.+);\\s*(?://\\s*(-?\\d+|true|false|NONE)?\\b.*)?");

    /** Called by the program that is made of README.md. */
    public static void due(String statement, long got, long want) {
        CHECK.due(1, "README.md: " + statement, got, want);
    }

    public static void due(String statement, boolean got, boolean want) {
        CHECK.due(1, "README.md: " + statement, got, want);
    }

    public static void main(String[] args) throws Exception {
        String readme = Files.readString(Path.of("README.md"));
        Path folder = Files.createTempDirectory("readme");
        try {
            runProgram(programOf(readme), folder);
        } finally {
            delete(folder);
        }
        calls(readme);
        tests(readme);
        CHECK.end("ReadmeTest");
    }

    // ---- the program

    private static String programOf(String readme) {
        StringBuilder methods = new StringBuilder();
        StringBuilder statements = new StringBuilder();
        int answers = 0;
        Matcher block = Pattern.compile("```java\\n(.*?)```", Pattern.DOTALL).matcher(readme);
        while (block.find()) {
            if (block.group(1).startsWith("static ")) {
                methods.append(block.group(1));
                continue;
            }
            for (String statement : statementsOf(block.group(1))) {
                String looked = lookedAt(statement);
                answers += looked.contains("ReadmeTest.due(") ? 1 : 0;
                statements.append(looked).append('\n');
            }
        }
        CHECK.due(1, "README.md: answers that are told", answers > 30, true);
        return "public final class " + PROGRAM + " {\n    static final int NONE = FewEnds.NONE;\n" + methods
            + "    public static void main(String[] args) {\n" + statements + "    }\n}\n";
    }

    /** A statement goes on to the line that ends with its sign, but for a comment. */
    private static List<String> statementsOf(String block) {
        List<String> statements = new ArrayList<>();
        String begun = "";
        for (String line : block.split("\n")) {
            begun = begun.isEmpty() ? line : begun + "\n" + line;
            if (line.matches(".*;\\s*(//.*)?")) {
                statements.add(begun);
                begun = "";
            }
        }
        CHECK.due(1, "README.md: what is left of a statement in " + block, begun.isBlank(), true);
        return statements;
    }

    /** The statement, and the look at its answer behind it, if one is told. */
    private static String lookedAt(String statement) {
        Matcher m = STATEMENT.matcher(statement);
        if (!m.matches() || m.group(4) == null) {
            return statement;
        }
        String quoted = statement.replaceAll("\\s*(\\n|//).*", "").replace("\\", "\\\\").replace("\"", "\\\"");
        if (m.group(1) == null) {
            return "ReadmeTest.due(\"" + quoted + "\", " + m.group(3) + ", " + m.group(4) + ");";
        }
        return statement + "\nReadmeTest.due(\"" + quoted + "\", " + m.group(2) + ", " + m.group(4) + ");";
    }

    private static void runProgram(String program, Path folder) throws Exception {
        Path file = folder.resolve(PROGRAM + ".java");
        Files.writeString(file, program);
        JavaCompiler compiler = ToolProvider.getSystemJavaCompiler();
        int outcome = compiler.run(null, System.out, System.out, "-d", folder.toString(),
            "-cp", System.getProperty("java.class.path"), file.toString());
        CHECK.due(1, "README.md: javac", outcome, 0);
        if (outcome != 0) {
            return;
        }
        URL[] places = {folder.toUri().toURL()};
        try (URLClassLoader loader = new URLClassLoader(places, ReadmeTest.class.getClassLoader())) {
            loader.loadClass(PROGRAM).getMethod("main", String[].class).invoke(null, (Object) new String[0]);
        }
    }

    private static void delete(Path folder) throws IOException {
        try (Stream<Path> all = Files.list(folder)) {
            for (Path file : all.toList()) {
                Files.delete(file);
            }
        }
        Files.delete(folder);
    }

    // ---- what the page must name

    private static void calls(String readme) {
        int at = readme.indexOf("### All calls");
        String table = readme.substring(Math.max(at, 0), Math.max(readme.indexOf("## Tests"), 0));
        for (Method method : FewEnds.class.getDeclaredMethods()) {
            if (Modifier.isPublic(method.getModifiers())) {
                boolean isNamed = table.contains("`" + method.getName() + "`");
                CHECK.due(1, "README.md names the call " + method.getName(), isNamed, true);
            }
        }
    }

    private static void tests(String readme) throws IOException {
        String table = readme.substring(Math.max(readme.indexOf("## Tests"), 0));
        CHECK.due(1, "README.md tells how all tests are run", table.contains("bash .ci/run"), true);
        try (Stream<Path> all = Files.list(Path.of("src/test/java"))) {
            for (Path file : all.toList()) {
                String name = file.getFileName().toString().replace(".java", "");
                if (name.endsWith("Test")) {
                    CHECK.due(1, "README.md names the test " + name, table.matches("(?s).*\\b" + name + "\\b.*"), true);
                }
            }
        }
    }
}
