import java.io.File;
import java.io.IOException;
import java.lang.reflect.InvocationTargetException;
import java.lang.reflect.Method;
import java.nio.file.Files;
import java.nio.file.Path;
import java.util.TreeSet;
import java.util.regex.Matcher;
import java.util.regex.Pattern;

/** What README.md says: the answers of its example, and which tests there are. */
public final class ReadmeTest {
    private static final Pattern CALL = Pattern.compile("desk\\.(\\w+)\\((.*)\\); +// ([-\\w]+).*");
    private static final Pattern TEST = Pattern.compile("`(\\w+Test)`");

    private ReadmeTest() {
    }

    public static void main(String[] args) throws IOException, ReflectiveOperationException {
        String readme = Files.readString(Path.of("README.md"));
        checkExample(readme);
        checkListOfTests(readme);
        Check.finish();
    }

    private static void checkExample(String readme) throws ReflectiveOperationException {
        OrderDesk desk = new OrderDesk();
        TreeSet<String> missing = new TreeSet<>();
        for (Method method : OrderDesk.class.getDeclaredMethods()) {
            if (!java.lang.reflect.Modifier.isPrivate(method.getModifiers())) {
                missing.add(method.getName());
            }
        }
        for (String line : readme.split("\n")) {
            if (line.startsWith("desk.")) {
                Matcher call = CALL.matcher(line);
                Check.due("README: a call with its answer: " + line, call.matches(), true);
                Check.due("README: " + line, answer(desk, call.group(1), call.group(2)), number(call.group(3)));
                missing.remove(call.group(1));
            }
        }
        for (String name : missing) {
            Check.due("README: the example uses " + name, false, true);
        }
    }

    private static long answer(OrderDesk desk, String name, String written) throws ReflectiveOperationException {
        for (Method method : OrderDesk.class.getDeclaredMethods()) {
            if (method.getName().equals(name)) {
                return number(String.valueOf(method.invoke(desk, arguments(method, written))));
            }
        }
        throw new InvocationTargetException(null, "README: there is no call " + name);
    }

    private static Object[] arguments(Method method, String written) {
        Class<?>[] types = method.getParameterTypes();
        String[] parts = written.split(", ");
        Object[] arguments = new Object[types.length];
        for (int i = 0; i < types.length; i++) {
            long number = number(parts[i]);
            if (types[i] == boolean.class) {
                arguments[i] = number == 1;
            } else if (types[i] == long.class) {
                arguments[i] = number;
            } else {
                arguments[i] = (int) number;
            }
        }
        return arguments;
    }

    /** A boolean counts 1 or 0. */
    private static long number(String written) {
        if (written.equals("true") || written.equals("false")) {
            return written.equals("true") ? 1 : 0;
        }
        return Long.decode(written);
    }

    private static void checkListOfTests(String readme) {
        TreeSet<String> named = new TreeSet<>();
        Matcher test = TEST.matcher(readme);
        while (test.find()) {
            named.add(test.group(1));
        }
        TreeSet<String> there = new TreeSet<>();
        for (String file : new File("src/test/java").list()) {
            if (file.endsWith("Test.java")) {
                there.add(file.substring(0, file.length() - ".java".length()));
            }
        }
        Check.due("README names " + named + " of " + there, named.equals(there), true);
    }
}
