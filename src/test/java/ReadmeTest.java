import java.io.ByteArrayOutputStream;
import java.io.IOException;
import java.io.PrintStream;
import java.lang.reflect.Method;
import java.lang.reflect.Modifier;
import java.nio.charset.StandardCharsets;
import java.nio.file.Files;
import java.nio.file.Path;
import java.util.regex.Pattern;
import java.util.stream.Stream;

/** README.md shows the example as it is and what it prints, and names every call and every test. */
public final class ReadmeTest {
    private static final Path TESTS = Path.of("src/test/java");

    private ReadmeTest() { }

    public static void main(String[] args) throws IOException {
        String readme = Files.readString(Path.of("README.md"));
        String example = Files.readString(TESTS.resolve("Example.java"));
        Check.yes("README.md shows the example", readme.contains("```java\n" + example + "```\n"));
        Check.yes("README.md shows what it prints", readme.contains("```text\n" + printed() + "```\n"));
        try (Stream<Path> files = Files.list(TESTS)) {
            files.map(file -> file.getFileName().toString()).filter(name -> name.endsWith("Test.java"))
                .map(name -> name.replace(".java", ""))
                .forEach(name -> Check.yes("README.md names " + name, readme.contains("| " + name + " |")));
        }
        for (Method method : OrderAssembler.class.getDeclaredMethods()) {
            boolean hidden = !Modifier.isPublic(method.getModifiers());
            String name = Pattern.quote(method.getName());
            Check.yes("README.md names " + method, hidden
                || Pattern.compile("[|,] " + name + "(,| \\|)").matcher(readme).find());
        }
        Check.end();
    }

    private static String printed() {
        PrintStream before = System.out;
        ByteArrayOutputStream bytes = new ByteArrayOutputStream();
        System.setOut(new PrintStream(bytes, true, StandardCharsets.UTF_8));
        Example.main(new String[0]);
        System.setOut(before);
        return bytes.toString(StandardCharsets.UTF_8).replace("\r\n", "\n");
    }
}
