import java.io.ByteArrayOutputStream;
import java.io.IOException;
import java.io.PrintStream;
import java.nio.charset.StandardCharsets;
import java.nio.file.Files;
import java.nio.file.Path;

/** README.md shows the example as it stands and what it prints, and names the tests that there are. */
public final class ReadmeTest {
    private static final Path TESTS = Path.of("src/test/java");

    public static void main(String[] args) throws IOException {
        String readme = Files.readString(Path.of("README.md"), StandardCharsets.ISO_8859_1);
        theExampleStands(readme);
        theExamplePrints(readme);
        theTestsAreNamed(readme);
        Shop.finish();
    }

    private static void theExampleStands(String readme) throws IOException {
        String example = Files.readString(TESTS.resolve("Example.java"), StandardCharsets.ISO_8859_1);
        Shop.same("the example in README.md", block(readme, "java"), example);
    }

    private static void theExamplePrints(String readme) {
        PrintStream before = System.out;
        ByteArrayOutputStream printed = new ByteArrayOutputStream();
        System.setOut(new PrintStream(printed));
        Example.main(new String[0]);
        System.setOut(before);
        String lines = printed.toString(StandardCharsets.ISO_8859_1).replace(System.lineSeparator(), "\n");
        Shop.same("what the example prints", block(readme, "text"), lines);
    }

    private static void theTestsAreNamed(String readme) throws IOException {
        try (var files = Files.newDirectoryStream(TESTS, "*Test.java")) {
            for (Path file : files) {
                String name = file.getFileName().toString().replace(".java", "");
                Shop.due(name + " is named in README.md", readme.contains("`" + name + "`") ? 1 : 0, 1);
            }
        }
    }

    /** What stands between the first fence of a kind and the next fence. */
    private static String block(String readme, String kind) {
        String fence = "```" + kind + "\n";
        int from = readme.indexOf(fence);
        int to = readme.indexOf("```", from + fence.length());
        return from < 0 || to < 0 ? "" : readme.substring(from + fence.length(), to);
    }
}
