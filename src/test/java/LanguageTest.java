import java.io.IOException;
import java.lang.reflect.Method;
import java.lang.reflect.Modifier;
import java.nio.file.Files;
import java.nio.file.Path;
import java.util.Arrays;
import java.util.List;
import java.util.regex.Matcher;
import java.util.regex.Pattern;

/**
 * The rules of LANGUAGE.md that can be seen in the text of the class, or in what it was compiled to. It is
 * narrower than they are: what they allow and the class has no need of is not let in here.
 */
public final class LanguageTest {
    private static final Pattern COMMENT = Pattern.compile("/\\*.*?\\*/|//[^\n]*", Pattern.DOTALL);
    private static final Pattern LIBRARY = Pattern.compile("\\b(Arrays|Integer|Long|Math|System)\\.(\\w+)");
    private static final List<String> LIBRARY_CALLS = List.of(
            "Arrays.copyOf", "Arrays.copyOfRange", "Arrays.fill", "System.arraycopy",
            "Integer.bitCount", "Integer.compare", "Integer.max", "Integer.min",
            "Long.bitCount", "Long.compare", "Long.max", "Long.min", "Math.abs", "Math.max", "Math.min");
    private static final Pattern METHOD = Pattern.compile("\n( +)[\\w\\[\\] ]+\\([^()]*\\) \\{\n");
    private static final int MOST_LINES = 60;

    private LanguageTest() {
    }

    public static void main(String[] args) throws IOException {
        String text = COMMENT.matcher(Files.readString(Path.of("src/main/java/OrderDesk.java"))).replaceAll("");
        checkPackageAndImports(text);
        checkNoneOf(text, "rule 2", "->", "::");
        checkNoneOf(text, "rule 3", "\\b(double|float|Object|var|Long|Boolean) \\w", "\\[\\]\\[\\]", "[^\\x00-\\xff]");
        checkLibrary(text);
        checkStaticFields(text);
        checkNoneOf(text, "rule 6", "\\b(throw|throws|try|catch|finally|synchronized|assert)\\b",
                "\\b(equals|hashCode|toString)\\b");
        checkNoneOf(text, "rule 9", "while \\(true\\)", "for \\([^;]*; *;");
        checkNoneOf(text, "rule 13", "\\b(Random|Thread|File|System\\.(nano|current|get|in|out|err))\\b");
        checkSizes(text);
        Check.finish();
    }

    private static void checkNoneOf(String text, String rule, String... patterns) {
        for (String pattern : patterns) {
            Matcher found = Pattern.compile(pattern).matcher(text);
            boolean there = found.find();
            Check.due(rule + ": '" + (there ? found.group() : pattern) + "' stands there", there, false);
        }
    }

    private static void checkPackageAndImports(String text) {
        checkNoneOf(text, "no package line", "(?m)^package\\b");
        checkNoneOf(text, "rule 4: imports", "(?m)^import (?!java\\.util\\.(Arrays|ArrayList|List);)");
    }

    private static void checkLibrary(String text) {
        Matcher call = LIBRARY.matcher(text);
        while (call.find()) {
            Check.due("rule 4: " + call.group() + " is known here", LIBRARY_CALLS.contains(call.group()), true);
        }
    }

    private static void checkStaticFields(String text) {
        checkNoneOf(text, "rule 5", "\\bstatic \\{");
        for (java.lang.reflect.Field field : OrderDesk.class.getDeclaredFields()) {
            int modifiers = field.getModifiers();
            boolean constant = Modifier.isFinal(modifiers) && field.getType() == int.class;
            Check.due("rule 5: " + field, !Modifier.isStatic(modifiers) || constant, true);
        }
    }

    private static void checkSizes(String text) {
        Class<?>[] inside = OrderDesk.class.getDeclaredClasses();
        Check.due("rule 11: at most twelve classes", inside.length + 1 <= 12, true);
        checkClass(OrderDesk.class);
        Arrays.stream(inside).forEach(LanguageTest::checkClass);
        Matcher method = METHOD.matcher(text);
        int methods = 0;
        while (method.find()) {
            int end = text.indexOf("\n" + method.group(1) + "}\n", method.end() - 1);
            String body = text.substring(method.start() + 1, end);
            long lines = body.lines().count() + 1;
            Check.due("rule 11: " + lines + " lines:" + method.group().trim(), lines <= MOST_LINES, true);
            methods++;
        }
        Check.due("rule 11: methods are seen", methods >= 20, true);
    }

    private static void checkClass(Class<?> one) {
        long fields = Arrays.stream(one.getDeclaredFields()).filter(f -> !Modifier.isStatic(f.getModifiers())).count();
        Check.due("rule 11: fields of " + one, fields <= 20, true);
        for (Method method : one.getDeclaredMethods()) {
            Check.due("rule 11: parameters of " + method, method.getParameterCount() <= 7, true);
        }
    }
}
