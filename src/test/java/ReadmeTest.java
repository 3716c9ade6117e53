import java.io.IOException;
import java.nio.file.Files;
import java.nio.file.Path;
import java.util.List;
import java.util.regex.Matcher;
import java.util.regex.Pattern;
import java.util.stream.Collectors;
import java.util.stream.Stream;

/** README.md tells what is so: each call of its example answers as it says there, and its table names all tests. */
final class ReadmeTest {
    private static final Pattern CALL = Pattern.compile("x\\.(\\w+\\(.*?\\)); *// (-?\\d+).*");

    private ReadmeTest() { }

    public static void main(String[] args) throws IOException, ReflectiveOperationException {
        Due due = new Due("ReadmeTest");
        String readme = Files.readString(Path.of("README.md"));
        CoatVotes x = new CoatVotes();
        int calls = 0;
        for (String line : readme.split("\n")) {
            Matcher m = CALL.matcher(line);
            if (m.matches()) {
                calls++;
                due.is(m.group(1), Due.call(x, m.group(1)), Integer.parseInt(m.group(2)));
            }
            due.is("a call with its answer: " + line, line.startsWith("x.") && !m.matches() ? 1 : 0, 0);
        }
        due.is("the example has calls", calls > 10 ? 1 : 0, 1);
        for (String test : tests()) {
            due.is("the table names " + test, readme.contains("| " + test + " |") ? 1 : 0, 1);
        }
        due.end();
    }

    private static List<String> tests() throws IOException {
        try (Stream<Path> files = Files.list(Path.of("src/test/java"))) {
            return files.map(f -> f.getFileName().toString()).filter(f -> f.endsWith("Test.java"))
                .map(f -> f.replace(".java", "")).collect(Collectors.toList());
        }
    }
}
