import java.net.URL;
import java.net.URLClassLoader;
import java.nio.file.Files;
import java.nio.file.Path;
import java.util.List;
import java.util.function.BiConsumer;
import java.util.function.Consumer;
import java.util.function.Supplier;

/**
 * The examples of README.md: they compile, and each call answers what the comment behind it begins with.
 * A block of Java there goes on with the net of the one before; a block that begins with "static" is a
 * method.
 */
public final class ReadmeTest {
    private static final StringBuilder METHODS = new StringBuilder();
    private static final StringBuilder STATEMENTS = new StringBuilder();
    private static int answers = 0;

    public static void main(String[] args) throws Exception {
        readBlocks(Files.readAllLines(Path.of(args[0], "README.md")));
        Path place = Files.createTempDirectory("readme");
        try {
            compileExample(place);
            loadExample(place).accept(ReadmeTest::checkLine);
        } finally {
            for (String name : List.of("Example.java", "Example.class", "")) {
                Files.deleteIfExists(place.resolve(name));
            }
        }
        Check.same("README.md has examples", true, answers > 20);
        Check.end();
    }

    private static void readBlocks(List<String> lines) {
        StringBuilder block = null;
        for (String line : lines) {
            if (line.equals("```java")) {
                block = STATEMENTS;
            } else if (line.equals("```")) {
                block = null;
            } else if (block != null) {
                block = line.startsWith("static ") ? METHODS : block;
                block.append(line.contains("// ") ? asked(line) : line).append('\n');
            }
        }
    }

    /** The call of a line is handed out with the line itself. */
    private static String asked(String line) {
        String call = line.substring(0, line.indexOf("// ")).strip().replaceAll(";$", "");
        String text = line.replace("\\", "\\\\").replace("\"", "\\\"");
        return "check.accept(\"" + text + "\", () -> " + call + ");";
    }

    private static void checkLine(String line, Supplier<Object> call) {
        answers++;
        String due = line.substring(line.indexOf("// ") + 3).split(": ")[0].replace("'", "");
        String got = Check.outcome(call::get).replaceAll("java\\.(lang|util)\\.", "");
        Check.same(line, due, got);
    }

    private static void compileExample(Path place) throws Exception {
        Path source = place.resolve("Example.java");
        Files.writeString(source, "import java.util.function.*;\n"
                + "public final class Example implements Consumer<BiConsumer<String, Supplier<Object>>> {\n"
                + METHODS
                + "public void accept(BiConsumer<String, Supplier<Object>> check) {\n"
                + STATEMENTS
                + "}\n}\n");
        Process compiler = new ProcessBuilder("javac", "-cp", System.getProperty("java.class.path"),
                "-d", place.toString(), source.toString()).inheritIO().start();
        Check.same("exit code of javac for the examples of README.md", 0, compiler.waitFor());
    }

    @SuppressWarnings("unchecked")
    private static Consumer<BiConsumer<String, Supplier<Object>>> loadExample(Path place) throws Exception {
        URL[] places = {place.toUri().toURL()};
        try (URLClassLoader loader = new URLClassLoader(places)) {
            return (Consumer<BiConsumer<String, Supplier<Object>>>)
                    loader.loadClass("Example").getConstructor().newInstance();
        }
    }
}
