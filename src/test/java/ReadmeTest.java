import java.io.File;
import java.io.IOException;
import java.nio.file.Files;
import java.nio.file.Path;
import java.util.Comparator;
import java.util.List;
import java.util.regex.Matcher;
import java.util.regex.Pattern;
import java.util.stream.Stream;
import javax.tools.ToolProvider;

/** The examples of README.md: they compile, and every call answers what its comment says. */
public final class ReadmeTest {
    private static final String NAME = "ReadmeExamples";
    private static final Pattern ANSWERED = Pattern.compile("^(\\S.*\\));\\s*// (-?\\d+)(\\D.*)?$");

    private final StringBuilder helpers = new StringBuilder();
    private final StringBuilder body = new StringBuilder();
    private int answers;

    private void read(List<String> lines) {
        boolean inside = false;
        boolean helper = false;
        for (String line : lines) {
            if (line.startsWith("```")) {
                inside = line.equals("```java");
                helper = false;
            } else if (inside) {
                helper = helper || line.startsWith("static ");
                (helper ? helpers : body).append(helper ? line : asked(line)).append('\n');
            }
        }
    }

    private String asked(String line) {
        Matcher m = ANSWERED.matcher(line);
        if (!m.matches()) {
            return line;
        }
        answers++;
        return "Check.due(\"README: " + m.group(1).replace("\"", "\\\"") + "\", " + m.group(1) + ", " + m.group(2) + ");";
    }

    private String source() {
        return "public final class " + NAME + " {\n" + helpers + "public static void main(String[] args) {\n" + body + "Check.end();\n}\n}\n";
    }

    private static void compile(Path folder, String source) throws IOException {
        Path file = folder.resolve(NAME + ".java");
        Files.writeString(file, source);
        String classes = System.getProperty("java.class.path");
        int failed = ToolProvider.getSystemJavaCompiler()
            .run(null, null, null, "-cp", classes, "-d", folder.toString(), file.toString());
        Check.due("README compiles", failed, 0);
    }

    private static int run(Path folder) throws IOException, InterruptedException {
        String java = Path.of(System.getProperty("java.home"), "bin", "java").toString();
        String classes = folder + File.pathSeparator + System.getProperty("java.class.path");
        return new ProcessBuilder(java, "-cp", classes, NAME).inheritIO().start().waitFor();
    }

    private static void remove(Path folder) throws IOException {
        try (Stream<Path> files = Files.walk(folder)) {
            for (Path file : (Iterable<Path>) files.sorted(Comparator.reverseOrder())::iterator) {
                Files.delete(file);
            }
        }
    }

    public static void main(String[] args) throws Exception {
        ReadmeTest test = new ReadmeTest();
        test.read(Files.readAllLines(Path.of("README.md")));
        Check.due("README has examples with answers: " + test.answers, test.answers >= 40 ? 1 : 0, 1);
        Path folder = Files.createTempDirectory("readme");
        compile(folder, test.source());
        Check.due("README runs", run(folder), 0);
        remove(folder);
        Check.end();
    }
}
