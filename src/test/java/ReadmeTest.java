import java.lang.reflect.Method;
import java.lang.reflect.Modifier;
import java.nio.file.Files;
import java.nio.file.Path;
import java.util.Arrays;
import java.util.List;
import java.util.regex.Matcher;
import java.util.regex.Pattern;
import java.util.stream.Stream;

/** README.md tells the truth: its example answers as it says, and it names every call and test. */
public final class ReadmeTest {
    private static final Check CHECK = new Check("ReadmeTest");
    private static final Pattern TOLD = Pattern.compile("x\\.(\\w+)\\(([-0-9, ]*)\\);\\s+// (-?\\d+)\\b");

    public static void main(String[] args) throws Exception {
        Path project = Path.of(System.getProperty("rockets.source")).toAbsolutePath().resolve("../../../..").normalize();
        String page = Files.readString(project.resolve("README.md"));
        exampleAnswersAsItSays(page);
        everyCallIsNamed(page);
        everyTestIsNamed(page, project.resolve("src/test/java"));
        CHECK.end();
    }

    private static void exampleAnswersAsItSays(String page) throws Exception {
        Matcher text = Pattern.compile("for \\(char c : \"([^\"]*)\"").matcher(page);
        CHECK.same("the example's valley", text.find() ? "told" : "not", "told");
        RocketsAsk x = new RocketsAsk();
        for (char c : text.group(1).toCharArray()) {
            x.letter(c);
        }
        Matcher line = TOLD.matcher(page);
        int lines = 0;
        while (line.find()) {
            lines++;
            CHECK.due(line.group(), answer(x, line.group(1), line.group(2)), Long.parseLong(line.group(3)));
        }
        CHECK.due("calls of the example", lines, page.lines().filter(l -> l.startsWith("x.")).count());
        CHECK.same("the example", lines >= 10 ? "whole" : "cut", "whole");
    }

    private static long answer(RocketsAsk x, String name, String numbers) throws Exception {
        Object[] values = Stream.of(numbers.split(",")).map(String::trim).filter(s -> !s.isEmpty())
            .map(Integer::valueOf).toArray();
        Class<?>[] types = new Class<?>[values.length];
        Arrays.fill(types, int.class);
        return ((Number) RocketsAsk.class.getMethod(name, types).invoke(x, values)).longValue();
    }

    private static void everyCallIsNamed(String page) {
        String calls = page.substring(page.indexOf("### Calls"), page.indexOf("### Refusals"));
        for (Method method : RocketsAsk.class.getDeclaredMethods()) {
            if (Modifier.isPublic(method.getModifiers())) {
                CHECK.same(method.getName(), calls.contains("`" + method.getName() + "`") ? "named" : "not", "named");
            }
        }
    }

    private static void everyTestIsNamed(String page, Path tests) throws Exception {
        List<String> names;
        try (Stream<Path> files = Files.list(tests)) {
            names = files.map(f -> f.getFileName().toString()).filter(n -> n.endsWith("Test.java")).sorted().toList();
        }
        for (String name : names) {
            String row = "| " + name.replace(".java", "") + " |";
            CHECK.same(name, page.contains(row) ? "named" : "not", "named");
        }
        long rows = page.lines().filter(l -> l.matches("\\| \\w+Test \\|.*")).count();
        CHECK.due("tests in the table", rows, names.size());
    }
}
