import java.io.ByteArrayOutputStream;
import java.io.IOException;
import java.io.PrintStream;
import java.nio.charset.StandardCharsets;
import java.nio.file.DirectoryStream;
import java.nio.file.Files;
import java.nio.file.Path;
import java.util.regex.Matcher;
import java.util.regex.Pattern;

/** README.md shows an example that is true, tells of every call of the face and of every test. */
public final class ReadmeTest {
    private static final Check CHECK = new Check();
    private static final Path TESTS = Path.of("src/test/java");

    public static void main(String[] args) throws IOException {
        String readme = Files.readString(Path.of("README.md"));
        example(readme);
        face(readme);
        tests(readme);
        CHECK.end("ReadmeTest");
    }

    private static void ok(String what, boolean good) {
        CHECK.eq(what, good ? 1 : 0, 1);
    }

    private static void example(String readme) throws IOException {
        ok("README.md shows Example.java", readme.contains("```java\n" + Files.readString(TESTS.resolve("Example.java")) + "```"));
        ok("README.md shows what Example prints", readme.contains("```text\n" + printed() + "```"));
    }

    private static String printed() {
        PrintStream screen = System.out;
        ByteArrayOutputStream bytes = new ByteArrayOutputStream();
        System.setOut(new PrintStream(bytes, true, StandardCharsets.UTF_8));
        Example.main(new String[0]);
        System.setOut(screen);
        return bytes.toString(StandardCharsets.UTF_8).replace(System.lineSeparator(), "\n");
    }

    /** Each method of the document's face has one row, with its parameters' names. */
    private static void face(String readme) throws IOException {
        Matcher method = Pattern.compile("public (?:int|long) (\\w+)\\(([^)]*)\\);").matcher(Files.readString(Path.of("../shared/DOC.md")));
        int found = 0;
        while (method.find()) {
            String row = "\n| `" + method.group(1) + "(" + method.group(2).replaceAll("(?:int|long) ", "") + ")` | ";
            ok("README.md tells of" + row.trim(), readme.contains(row) && readme.indexOf(row) == readme.lastIndexOf(row));
            found++;
        }
        CHECK.eq("methods of the face", found, 75);
        CHECK.eq("rows of README.md that tell of a call", readme.split("\n\\| `\\w+\\([^)]*\\)` \\| ", -1).length - 1, 75);
    }

    private static void tests(String readme) throws IOException {
        ok("README.md tells how to run the tests", readme.contains("\n    .ci/run\n"));
        try (DirectoryStream<Path> files = Files.newDirectoryStream(TESTS, "*Test.java")) {
            for (Path file : files) {
                String name = file.getFileName().toString().replace(".java", "");
                ok("README.md tells of " + name, readme.contains("\n| " + name + " | "));
            }
        }
    }
}
