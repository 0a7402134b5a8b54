import java.io.ByteArrayOutputStream;
import java.io.IOException;
import java.io.PrintStream;
import java.lang.reflect.Method;
import java.lang.reflect.Modifier;
import java.nio.charset.StandardCharsets;
import java.nio.file.Files;
import java.nio.file.Path;
import java.util.ArrayList;
import java.util.List;
import java.util.stream.Stream;

/** README.md: its example is the one that runs, and it names every call and every test. */
public final class ReadmeTest {
    private static final Path TESTS = Path.of("src/test/java");

    private ReadmeTest() {
    }

    public static void main(String[] args) throws IOException {
        String readme = read(Path.of("README.md"));
        exampleIsShown(readme);
        exampleAnswers(readme);
        callsAreNamed(readme);
        testsAreNamed(readme);
        Check.end();
    }

    private static String read(Path path) throws IOException {
        return Files.readString(path, StandardCharsets.UTF_8);
    }

    private static String block(String readme, String kind) {
        String from = "```" + kind + "\n";
        int start = readme.indexOf(from) + from.length();
        return readme.substring(start, readme.indexOf("```", start));
    }

    private static void exampleIsShown(String readme) throws IOException {
        String example = read(TESTS.resolve("Example.java"));
        Check.is("the example", block(readme, "java"), example.substring(example.indexOf("public final class")));
    }

    private static void exampleAnswers(String readme) {
        ByteArrayOutputStream printed = new ByteArrayOutputStream();
        PrintStream screen = System.out;
        System.setOut(new PrintStream(printed, true, StandardCharsets.UTF_8));
        Example.main(new String[0]);
        System.setOut(screen);
        String lines = printed.toString(StandardCharsets.UTF_8).replace(System.lineSeparator(), "\n");
        Check.is("what the example prints", lines, block(readme, "text"));
    }

    private static void callsAreNamed(String readme) {
        List<String> named = new ArrayList<>();
        for (String line : rowsBelow(readme, "| calls |")) {
            named.addAll(List.of(line.split("\\|")[1].trim().split(", ")));
        }
        for (Method method : RebuildScheduler.class.getDeclaredMethods()) {
            if (Modifier.isPublic(method.getModifiers()) && !named.remove(method.getName())) {
                Check.fail("README.md does not name the call " + method.getName());
            }
        }
        Check.is("calls that do not exist or are named twice", named.toString(), "[]");
    }

    private static void testsAreNamed(String readme) throws IOException {
        List<String> named = new ArrayList<>();
        for (String line : rowsBelow(readme, "| test |")) {
            named.add(line.split("\\|")[1].trim() + ".java");
        }
        try (Stream<Path> files = Files.list(TESTS)) {
            for (String name : files.map(file -> file.getFileName().toString()).toList()) {
                if (name.endsWith("Test.java") && !named.remove(name)) {
                    Check.fail("README.md does not name the test " + name);
                }
            }
        }
        Check.is("tests that do not exist or are named twice", named.toString(), "[]");
    }

    /** The rows of a table, without its head. */
    private static List<String> rowsBelow(String readme, String head) {
        List<String> rows = new ArrayList<>();
        boolean isInside = false;
        for (String line : readme.split("\n")) {
            boolean isRow = line.startsWith("| ");
            if (isInside && isRow) {
                rows.add(line);
            }
            isInside = line.startsWith(head) || isInside && (isRow || line.startsWith("|-"));
        }
        return rows;
    }
}
