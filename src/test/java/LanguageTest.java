import java.nio.file.Files;
import java.nio.file.Path;
import java.util.regex.Matcher;
import java.util.regex.Pattern;

/** What of ../shared/LANGUAGE.md can be seen in the words of the source. */
public final class LanguageTest {
    private static final Check CHECK = new Check("LanguageTest");

    public static void main(String[] args) throws Exception {
        String source = Files.readString(Path.of(System.getProperty("rockets.source")));
        CHECK.same("signs", source.matches("\\p{ASCII}*") ? "plain" : "others", "plain");
        String code = source.replaceAll("(?s)/\\*.*?\\*/", "").replaceAll("//[^\n]*", "");
        never(code, "\\b(throw|throws|try|catch|synchronized|assert|package|protected|Random|System\\.(?!arraycopy))\\b");
        never(code, "->|::|\\bvar\\b|\\bObject\\b|Exact\\(|\\bwhile\\b|\\bnew [A-Z]\\w*\\(\\)\\s*\\{");
        never(code, "import (?!java\\.util\\.Arrays;)");
        never(code, "static (?!final)(int|long|char|boolean|String)(\\[\\])? \\w+ *(=|;)");
        never(code, "(?m)^ {4}(?!public|private)\\w+ ");
        methodsAreShort(code);
        CHECK.end();
    }

    private static void never(String code, String pattern) {
        Matcher found = Pattern.compile(pattern).matcher(code);
        CHECK.same(pattern, found.find() ? "found: " + found.group() : "never", "never");
    }

    private static void methodsAreShort(String code) {
        Matcher body = Pattern.compile("(?ms)^( {4}| {8})\\w[^;=\n]*\\(([^)\n]*)\\) \\{\n.*?^\\1\\}").matcher(code);
        int methods = 0;
        while (body.find()) {
            methods++;
            long lines = body.group().lines().count();
            CHECK.same("lines of " + body.group().lines().findFirst().get(), lines <= 60 ? "short" : "long", "short");
            CHECK.same("parameters", body.group(2).split(",").length <= 7 ? "few" : "many", "few");
        }
        CHECK.same("methods found", methods > 60 ? "many" : "few: " + methods, "many");
    }
}
