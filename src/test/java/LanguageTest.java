import java.lang.reflect.Field;
import java.lang.reflect.Method;
import java.lang.reflect.Modifier;
import java.nio.file.Files;
import java.nio.file.Path;
import java.util.Arrays;
import java.util.HashSet;
import java.util.Set;
import java.util.regex.Matcher;
import java.util.regex.Pattern;

/** What of ../shared/LANGUAGE.md can be seen in the words of the source. */
public final class LanguageTest {
    private static final Check CHECK = new Check("LanguageTest");

    public static void main(String[] args) throws Exception {
        String source = Files.readString(Path.of(System.getProperty("rockets.source")));
        CHECK.same("signs", source.matches("\\p{ASCII}*") ? "plain" : "others", "plain");
        String code = source.replaceAll("(?s)/\\*.*?\\*/", "").replaceAll("//[^\n]*", "");
        never(code, "\\b(throw|throws|try|catch|synchronized|assert|package|protected|Random|System\\.(?!arraycopy))\\b");
        never(code, "->|::|\\bvar\\b|\\bObject\\b|Exact\\(|\\bwhile\\b|\\bnew [A-Z]\\w*\\(\\)\\s*\\{");
        never(code, "import (?!java\\.util\\.Arrays;)");
        never(code, "static (?!final)(int|long|char|boolean|String)(\\[\\])? \\w+ *(=|;)");
        never(code, "(?m)^ {4}(?!public|private)\\w+ ");
        methodsAreShort(code);
        noPrivateMethodHasAPublicName();
        fieldsAreFewAndStaticOnesFinal(RocketsAsk.class);
        for (Class<?> inside : RocketsAsk.class.getDeclaredClasses()) {
            CHECK.same(inside.getName(), Modifier.isStatic(inside.getModifiers()) ? "static" : "not", "static");
            fieldsAreFewAndStaticOnesFinal(inside);
        }
        CHECK.end();
    }

    private static void never(String code, String pattern) {
        Matcher found = Pattern.compile(pattern).matcher(code);
        CHECK.same(pattern, found.find() ? "found: " + found.group() : "never", "never");
    }

    /** Rule 1. */
    private static void noPrivateMethodHasAPublicName() {
        Set<String> names = new HashSet<>();
        for (Method method : RocketsAsk.class.getDeclaredMethods()) {
            if (Modifier.isPublic(method.getModifiers())) {
                names.add(method.getName());
            }
        }
        CHECK.due("public names", names.size(), 38);
        for (Method method : RocketsAsk.class.getDeclaredMethods()) {
            if (!Modifier.isPublic(method.getModifiers()) && !method.isSynthetic()) {
                CHECK.same("another method", Modifier.isPrivate(method.getModifiers()) ? "private" : "not", "private");
                CHECK.same(method.getName(), names.contains(method.getName()) ? "taken" : "free", "free");
            }
        }
    }

    /** Rules 5 and 11. */
    private static void fieldsAreFewAndStaticOnesFinal(Class<?> owner) {
        int own = 0;
        for (Field field : owner.getDeclaredFields()) {
            boolean isStatic = Modifier.isStatic(field.getModifiers());
            own += isStatic ? 0 : 1;
            if (isStatic && !field.isSynthetic()) {
                String type = field.getType().getSimpleName();
                boolean fine = Arrays.asList("int", "long", "boolean", "char", "String", "int[]").contains(type);
                CHECK.same(field.getName(), fine && Modifier.isFinal(field.getModifiers()) ? "constant" : "not", "constant");
            }
        }
        CHECK.same("fields of " + owner.getName(), own <= 20 ? "few" : "many: " + own, "few");
    }

    private static void methodsAreShort(String code) {
        Matcher body = Pattern.compile("(?ms)^( {4}| {8})\\w[^;=\n]*\\(([^)\n]*)\\) \\{\n.*?^\\1\\}").matcher(code);
        int methods = 0;
        while (body.find()) {
            methods++;
            long lines = body.group().lines().count();
            CHECK.same("lines of " + body.group().lines().findFirst().get(), lines <= 60 ? "short" : "long", "short");
            CHECK.same("parameters", body.group(2).split(",").length <= 7 ? "few" : "many", "few");
        }
        CHECK.same("methods found", methods > 60 ? "many" : "few: " + methods, "many");
    }
}
