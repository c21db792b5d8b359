import java.lang.reflect.Method;
import java.lang.reflect.Modifier;
import java.net.URL;
import java.net.URLClassLoader;
import java.nio.charset.StandardCharsets;
import java.nio.file.DirectoryStream;
import java.nio.file.Files;
import java.nio.file.Path;
import java.util.ArrayList;
import java.util.List;
import java.util.regex.Matcher;
import java.util.regex.Pattern;
import javax.tools.JavaCompiler;
import javax.tools.ToolProvider;

/**
 * README.md: its examples are compiled as they stand there and run, each row answering what is written behind it; it
 * names every call with its arguments, every test, and how they are run. Another page can be named as an argument.
 */
public final class ReadmeTest {
    private static final Pattern BLOCK = Pattern.compile("(?ms)^```java\\n(.*?)^```$");
    private static final Pattern ROW = Pattern.compile("x\\.\\w+\\(.*\\);(\\s*//.*)?");
    private static final Pattern ROW_WITH_ANSWER = Pattern.compile("(x\\.\\w+\\(.*\\));\\s*// (-?\\d+|[A-Z]+)(: .*)?");
    private static final int ROWS_LEAST = 20;

    private static int wrong = 0;
    private static int rows = 0;

    private static void complain(String what) {
        wrong++;
        System.out.println(what);
    }

    /** Called by the code that is made of the page. */
    public static void due(String row, int answer, int due) {
        rows++;
        if (answer != due) {
            complain(row + " answered " + answer);
        }
    }

    public static void main(String[] args) throws Exception {
        String page = Files.readString(Path.of(args.length > 0 ? args[0] : "README.md"), StandardCharsets.UTF_8);
        examples(page);
        calls(page);
        tests(page);
        System.out.println(wrong == 0 ? "README.md is so: " + rows + " rows" : wrong + " things in README.md are not so");
        if (wrong != 0) {
            System.exit(1);
        }
    }

    private static void examples(String page) throws Exception {
        List<String> blocks = new ArrayList<>();
        Matcher m = BLOCK.matcher(page);
        while (m.find()) {
            blocks.add(m.group(1));
        }
        Path folder = Files.createTempDirectory("readme");
        Path source = folder.resolve("ReadmeCode.java");
        Files.writeString(source, codeOf(blocks), StandardCharsets.UTF_8);
        JavaCompiler compiler = ToolProvider.getSystemJavaCompiler();
        if (compiler == null) {
            complain("no compiler: java is not that of a JDK");
        } else if (compiler.run(null, System.out, System.out, "-encoding", "UTF-8", "-cp", System.getProperty("java.class.path"),
                "-d", folder.toString(), source.toString()) != 0) {
            complain("an example does not compile");
        } else {
            runCode(folder);
        }
        try (DirectoryStream<Path> made = Files.newDirectoryStream(folder)) {
            for (Path file : made) {
                Files.delete(file);
            }
        }
        Files.delete(folder);
        if (rows < ROWS_LEAST) {
            complain("only " + rows + " rows were run");
        }
    }

    private static String codeOf(List<String> blocks) {
        StringBuilder code = new StringBuilder("public final class ReadmeCode {\n");
        code.append("static final int NONE = DummyHunt.NONE, UNKNOWN = DummyHunt.UNKNOWN, OUTSIDE = DummyHunt.OUTSIDE,\n");
        code.append("    NOT = DummyHunt.NOT, FULL = DummyHunt.FULL;\n");
        code.append("public static void run() {\n");
        for (String block : blocks) {
            code.append("{\n");
            for (String line : block.split("\n")) {
                code.append(codeOf(line)).append('\n');
            }
            code.append("}\n");
        }
        return code.append("}\n}\n").toString();
    }

    private static String codeOf(String line) {
        Matcher m = ROW_WITH_ANSWER.matcher(line.trim());
        if (m.matches()) {
            return "ReadmeTest.due(\"" + line.trim().replace("\\", "\\\\").replace("\"", "\\\"") + "\", " + m.group(1) + ", "
                + m.group(2) + ");";
        }
        if (ROW.matcher(line.trim()).matches()) {
            complain("no answer stands behind " + line);
        }
        return line;
    }

    private static void runCode(Path folder) throws Exception {
        URL[] where = {folder.toUri().toURL()};
        try (URLClassLoader loader = new URLClassLoader(where, ReadmeTest.class.getClassLoader())) {
            loader.loadClass("ReadmeCode").getMethod("run").invoke(null);
        }
    }

    /** Each call stands in the table with as many arguments as it has. */
    private static void calls(String page) {
        for (Method m : DummyHunt.class.getDeclaredMethods()) {
            if (!Modifier.isPublic(m.getModifiers())) {
                continue;
            }
            int n = m.getParameterCount();
            String inside = n == 0 ? "" : "\\w+" + ", \\w+".repeat(n - 1);
            if (!Pattern.compile("(?m)^\\|.*`" + m.getName() + "\\(" + inside + "\\)`.*\\|$").matcher(page).find()) {
                complain("the table does not tell of " + m.getName() + " with " + n + " arguments");
            }
        }
        for (String constant : new String[] {"NONE", "UNKNOWN", "OUTSIDE", "NOT", "FULL"}) {
            if (!page.contains("`" + constant + "`")) {
                complain("the page does not tell of " + constant);
            }
        }
    }

    private static void tests(String page) throws Exception {
        if (!page.contains("```sh\n.ci/run\n```") || !Files.isExecutable(Path.of(".ci/run"))) {
            complain("the page does not say how to run the tests");
        }
        try (DirectoryStream<Path> tests = Files.newDirectoryStream(Path.of("src/test/java"), "*.java")) {
            for (Path test : tests) {
                String name = test.getFileName().toString().replace(".java", "");
                if (!page.contains("- `" + name + "`: ")) {
                    complain("the page does not tell of " + name);
                }
            }
        }
        Matcher m = Pattern.compile("(?m)^- `(\\w+)`: ").matcher(page);
        while (m.find()) {
            if (!Files.exists(Path.of("src/test/java", m.group(1) + ".java"))) {
                complain("there is no test " + m.group(1));
            }
        }
    }
}
