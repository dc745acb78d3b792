import java.io.IOException;
import java.lang.reflect.InvocationTargetException;
import java.lang.reflect.Method;
import java.nio.file.Files;
import java.nio.file.Path;
import java.util.regex.Matcher;
import java.util.regex.Pattern;

/** The first example of README.md answers what stands behind its calls. */
public final class ReadmeTest {
    private static final Pattern CALL =
            Pattern.compile("^desk\\.(\\w+)\\((.*)\\); +// (throws )?([\\w-]+)");

    private static final int CALLS = 17;

    public static void main(String[] args) throws IOException, IllegalAccessException {
        Check check = new Check();
        LintDesk desk = new LintDesk();
        int calls = 0;
        for (String line : Files.readAllLines(Path.of("README.md"))) {
            Matcher call = CALL.matcher(line);
            if (call.find()) {
                calls++;
                check.same(line, answer(desk, call.group(1), call.group(2)), call.group(4));
            }
        }
        check.same("the calls in README.md", calls, CALLS);
        check.end();
    }

    private static String answer(LintDesk desk, String name, String arguments)
            throws IllegalAccessException {
        try {
            return String.valueOf(method(name).invoke(desk, values(method(name), arguments)));
        } catch (InvocationTargetException e) {
            return e.getCause().getClass().getSimpleName();
        }
    }

    private static Method method(String name) {
        for (Method method : LintDesk.class.getMethods()) {
            if (method.getName().equals(name)) {
                return method;
            }
        }
        throw new IllegalStateException("no call " + name);
    }

    private static Object[] values(Method method, String arguments) {
        String[] texts = arguments.isEmpty() ? new String[0] : arguments.split(", ");
        Object[] values = new Object[texts.length];
        for (int k = 0; k < texts.length; k++) {
            values[k] = value(method.getParameterTypes()[k], texts[k]);
        }
        return values;
    }

    private static Object value(Class<?> type, String text) {
        if (type == boolean.class) {
            return Boolean.valueOf(text);
        }
        if (type == long.class) {
            return Long.decode(text.replace("L", ""));
        }
        return Integer.valueOf(text);
    }
}
