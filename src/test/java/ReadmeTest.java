import java.nio.file.Files;
import java.nio.file.Path;
import java.util.List;
import java.util.regex.Matcher;
import java.util.regex.Pattern;
import java.util.stream.Stream;

/** README.md says what is so: its example answers as told there, and its table names each test. */
public final class ReadmeTest {
    private static final Pattern MADE = Pattern.compile("ExtentGroup group = new ExtentGroup\\((\\d+), (\\d+)\\);.*");
    private static final Pattern CALL = Pattern.compile("group\\.(\\w+)\\((.*?)\\); +// -> (\\S+).*");

    public static void main(String[] args) throws Exception {
        Script s = new Script();
        List<String> lines = Files.readAllLines(Path.of("README.md"));
        example(s, lines.subList(lines.indexOf("```java") + 1, lines.lastIndexOf("```")));
        namesEachTest(s, lines);
        s.end();
    }

    private static void example(Script s, List<String> lines) {
        Matcher made = MADE.matcher(lines.get(0));
        s.due("the example's first line makes an object", made.matches() ? 1 : 0, 1);
        ExtentGroup group = new ExtentGroup(Integer.parseInt(made.group(1)), Integer.parseInt(made.group(2)));
        for (String line : lines.subList(1, lines.size())) {
            Matcher call = CALL.matcher(line);
            s.due("the example's line is a call with its answer: " + line, call.matches() ? 1 : 0, 1);
            s.go("README.md", group, call.group(1) + " " + call.group(2).replace(",", "") + " -> " + call.group(3));
        }
    }

    private static void namesEachTest(Script s, List<String> lines) throws Exception {
        try (Stream<Path> files = Files.list(Path.of("src/test/java"))) {
            for (Path file : files.toList()) {
                String name = file.getFileName().toString().replace(".java", "");
                boolean named = lines.stream().anyMatch(line -> line.matches("\\|.*\\b" + name + "\\b.*\\|.*\\|"));
                s.due("README.md names " + name, !name.endsWith("Test") || named ? 1 : 0, 1);
            }
        }
    }
}
