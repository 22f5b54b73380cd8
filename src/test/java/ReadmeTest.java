import java.io.IOException;
import java.nio.charset.StandardCharsets;
import java.nio.file.Files;
import java.nio.file.Path;
import java.util.List;
import java.util.regex.Matcher;
import java.util.regex.Pattern;
import javax.tools.JavaCompiler;
import javax.tools.StandardJavaFileManager;
import javax.tools.ToolProvider;

/** The lines of code in README.md, run one after the other: they answer what their comments say. */
public final class ReadmeTest {
    private static final Path README = Path.of("README.md");
    /** A statement whose comment begins with what it answers: a number, or a constant by its name. */
    private static final Pattern ANSWERED =
        Pattern.compile("(?:int (\\w+) = )?(mill\\.\\w+\\(.*\\));\\s+// (-?\\d+|[A-Z_]+):.*");
    private static final String NAME = "ReadmeLines";

    private ReadmeTest() {
    }

    public static void main(String[] arguments) throws IOException, ReflectiveOperationException {
        StringBuilder body = new StringBuilder();
        int answers = 0;
        for (String line : Files.readAllLines(README, StandardCharsets.UTF_8)) {
            Matcher answered = ANSWERED.matcher(line.strip());
            if (line.startsWith("    ") && answered.matches()) {
                body.append(comparing(answered));
                answers++;
            } else if (line.startsWith("    ") && line.contains("mill")) {
                body.append(line).append('\n');
            }
        }
        Check.due("there are lines with answers", 1, answers > 20 ? 1 : 0);
        run("public final class " + NAME + " { public static void all() {\n" + body + "} }\n");
        Check.end("ReadmeTest");
    }

    private static String comparing(Matcher answered) {
        String call = answered.group(2);
        String due = Character.isLetter(answered.group(3).charAt(0)) ? "SeaMill." + answered.group(3) : answered.group(3);
        String variable = answered.group(1);
        String before = variable == null ? "" : "int " + variable + " = " + call + ";\n";
        String got = variable == null ? call : variable;
        return before + "ReadmeTest.due(\"" + call + "\", " + due + ", " + got + ");\n";
    }

    /** Compiles the lines together with the class, apart from the tests, and runs them. */
    private static void run(String source) throws IOException, ReflectiveOperationException {
        Path directory = Files.createTempDirectory("readme");
        Path file = directory.resolve(NAME + ".java");
        Path compiled = directory.resolve(NAME + ".class");
        try {
            Files.writeString(file, source);
            JavaCompiler compiler = ToolProvider.getSystemJavaCompiler();
            try (StandardJavaFileManager files = compiler.getStandardFileManager(null, null, null)) {
                List<String> options = List.of("-d", directory.toString());
                boolean done = compiler.getTask(null, files, null, options, null, files.getJavaFileObjects(file)).call();
                Check.due("the lines compile", 1, done ? 1 : 0);
                if (done) {
                    new Lines().define(Files.readAllBytes(compiled)).getMethod("all").invoke(null);
                }
            }
        } finally {
            Files.deleteIfExists(compiled);
            Files.deleteIfExists(file);
            Files.deleteIfExists(directory);
        }
    }

    /** What the lines call. */
    public static void due(String call, long want, long got) {
        Check.due(call, want, got);
    }

    private static final class Lines extends ClassLoader {
        Class<?> define(byte[] code) {
            return defineClass(NAME, code, 0, code.length);
        }
    }
}
