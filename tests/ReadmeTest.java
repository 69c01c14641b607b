import java.io.IOException;
import java.nio.file.Files;
import java.nio.file.Path;
import java.util.List;
import java.util.regex.Matcher;
import java.util.regex.Pattern;

/** The calls that README.md shows answer what it shows; and it names every test that there is. */
public final class ReadmeTest {
    private static final Due DUE = new Due();
    private static final Pattern CALL = Pattern.compile("roof\\.(\\w+\\([-0-9, ]*\\)); *// (-?\\d+)(:.*)?");
    private static final Pattern FED =
        Pattern.compile("for \\(char c : \"([^\"]*)\"\\.toCharArray\\(\\)\\) roof\\.feed\\(c\\);");
    private static final String NEW = "UnderTheRoof roof = new UnderTheRoof();";

    private static UnderTheRoof roof;
    private static int calls = 0;
    private static int refusals = 0;

    public static void main(String[] args) throws IOException {
        String readme = Files.readString(Path.of("README.md"));
        boolean shown = false;
        for (String line : readme.split("\n")) {
            if (line.startsWith("```")) {
                shown = line.equals("```java");
            } else if (shown) {
                line(line);
            }
        }
        DUE.holds("it shows calls: " + calls + ", and refusals: " + refusals, calls >= 10 && refusals >= 5);
        tests(readme);
        DUE.end("ReadmeTest");
    }

    private static void line(String line) {
        Matcher call = CALL.matcher(line);
        Matcher fed = FED.matcher(line);
        if (line.equals(NEW)) {
            roof = new UnderTheRoof();
        } else if (fed.matches() && roof != null) {
            Roof.feed(roof, fed.group(1));
        } else if (call.matches() && roof != null) {
            calls++;
            refusals += call.group(2).startsWith("-") ? 1 : 0;
            DUE.is(line, Script.call(roof, call.group(1)), Long.parseLong(call.group(2)));
        } else {
            DUE.holds("a line that can be asked: " + line, false);
        }
    }

    private static void tests(String readme) throws IOException {
        try (var files = Files.list(Path.of("tests"))) {
            for (Path file : (Iterable<Path>) files::iterator) {
                String name = file.getFileName().toString().replace(".java", "");
                List<String> named = List.of("`" + name + "`", name.startsWith("Edge") ? "`Edge...Test`" : "`" + name + "`");
                DUE.holds("it names " + name, !name.endsWith("Test") || named.stream().anyMatch(readme::contains));
            }
        }
    }
}
