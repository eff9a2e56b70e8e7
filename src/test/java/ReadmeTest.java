import java.io.ByteArrayOutputStream;
import java.io.IOException;
import java.io.PrintStream;
import java.io.UncheckedIOException;
import java.nio.file.Files;
import java.nio.file.Path;
import java.util.List;
import java.util.regex.Matcher;
import java.util.regex.Pattern;

/**
 * README.md: its example is Example.java word for word, what its lines print is what it says of them, and the
 * statements of its table are statements.
 */
final class ReadmeTest {
    private static final Pattern PRINTING = Pattern.compile("System\\.out\\.println\\((.*)\\); +// ([^:\n]*)");
    private static final Pattern STATEMENT = Pattern.compile("\n\\| `((insert|update|delete|select) [^`]*)`");

    static void test(Checks checks) {
        String readme = read("README.md");
        String example = read("src/test/java/Example.java");
        boolean stands = readme.contains("```java\n" + example + "```\n");
        checks.same("whether README.md has Example.java word for word", 1, stands ? 1 : 0);
        testPrinted(checks, example);
        testStatements(checks, readme);
    }

    private static void testStatements(Checks checks, String readme) {
        Matcher statement = STATEMENT.matcher(readme);
        int count = 0;
        for (; statement.find(); count++) {
            int due = statement.group(2).equals("insert") ? 1 : 0;
            new Trial(checks, "README.md's statements", 0, 0, 0, 0).run(0, statement.group(1), due);
        }
        checks.same("how many statements README.md's table has", 6, count);
    }

    private static void testPrinted(Checks checks, String example) {
        List<String> printed = printed();
        Matcher printing = PRINTING.matcher(example);
        int count = 0;
        for (; printing.find(); count++) {
            String answered = count < printed.size() ? printed.get(count) : "nothing";
            boolean due = answered.equals(printing.group(2));
            checks.same("whether README.md tells that " + printing.group(1) + " is " + answered, 1, due ? 1 : 0);
        }
        checks.same("how many lines README.md's example prints", printed.size(), count);
        checks.same("whether README.md's example prints lines", 1, count > 0 ? 1 : 0);
    }

    private static List<String> printed() {
        ByteArrayOutputStream bytes = new ByteArrayOutputStream();
        PrintStream out = System.out;
        System.setOut(new PrintStream(bytes, true));
        try {
            Example.main(new String[0]);
        } finally {
            System.setOut(out);
        }
        return bytes.toString().lines().toList();
    }

    /** A file of the project, whose folder .ci/run works in. */
    private static String read(String file) {
        try {
            return Files.readString(Path.of(file));
        } catch (IOException e) {
            throw new UncheckedIOException(e);
        }
    }
}
