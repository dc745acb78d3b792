import java.io.PrintWriter;
import java.io.StringWriter;
import java.lang.reflect.Executable;
import java.lang.reflect.Method;
import java.lang.reflect.Modifier;
import java.net.URISyntaxException;
import java.nio.file.Path;
import java.util.ArrayList;
import java.util.Arrays;
import java.util.List;
import java.util.Map;
import java.util.Optional;
import java.util.Set;
import java.util.TreeMap;
import java.util.TreeSet;
import java.util.regex.Matcher;
import java.util.regex.Pattern;
import java.util.spi.ToolProvider;

/** Rules of LANGUAGE.md that the compiled classes show: 1, 2, 4 and 11. */
public final class LanguageTest {
    private static final Pattern HEADING = Pattern.compile("^  (?=\\S).*?([\\w$.]+)\\(.*\\).*;$");
    private static final Pattern CALL = Pattern.compile("// (?:Interface)?Method ([^:]+):");
    /** What the class may call of the library; the last row is what the compiler itself puts in. */
    private static final Set<String> LIBRARY = Set.of(
            "String.length", "String.charAt", "String.isEmpty", "Integer.bitCount",
            "IllegalArgumentException.<init>", "IllegalStateException.<init>",
            "IndexOutOfBoundsException.<init>",
            "Object.<init>", "Enum.<init>", "Enum.valueOf", "LintDesk$Token.ordinal",
            "[LLintDesk$Token;.clone");

    public static void main(String[] args) throws URISyntaxException {
        Check check = new Check();
        List<Class<?>> classes = new ArrayList<>(Arrays.asList(LintDesk.class.getDeclaredClasses()));
        classes.add(LintDesk.class);
        check.same("at most twelve classes", classes.size() <= 12, true);
        for (Class<?> of : classes) {
            headings(check, of);
        }
        Optional<ToolProvider> javap = ToolProvider.findFirst("javap");
        if (javap.isPresent()) {
            calls(check, callsOf(classes, javap.get()));
        } else {
            System.out.println("no javap here: the calls of the class are not looked at");
        }
        check.end();
    }

    private static void headings(Check check, Class<?> of) {
        List<Executable> all = new ArrayList<>(Arrays.asList(of.getDeclaredMethods()));
        all.addAll(Arrays.asList(of.getDeclaredConstructors()));
        for (Executable one : all) {
            check.same(one + " takes at most seven parameters", one.getParameterCount() <= 7, true);
            check.same(one + " is no lambda", one.getName().startsWith("lambda$"), false);
        }
        for (Method own : of.getDeclaredMethods()) {
            boolean hidden = of != LintDesk.class || !Modifier.isPublic(own.getModifiers());
            check.same(own + " bears no public one's name", hidden && isPublicName(own.getName()), false);
        }
    }

    private static boolean isPublicName(String name) {
        for (Method method : LintDesk.class.getDeclaredMethods()) {
            if (Modifier.isPublic(method.getModifiers()) && method.getName().equals(name)) {
                return true;
            }
        }
        return false;
    }

    /** For each method the methods that it calls. */
    private static Map<String, Set<String>> callsOf(List<Class<?>> classes, ToolProvider javap)
            throws URISyntaxException {
        Map<String, Set<String>> calls = new TreeMap<>();
        String place = Path.of(LintDesk.class.getProtectionDomain().getCodeSource().getLocation().toURI())
                .toString();
        for (Class<?> of : classes) {
            StringWriter text = new StringWriter();
            PrintWriter out = new PrintWriter(text);
            javap.run(out, out, "-c", "-p", "-cp", place, of.getName());
            noteCalls(calls, of.getName(), text.toString());
        }
        return calls;
    }

    private static void noteCalls(Map<String, Set<String>> calls, String of, String text) {
        Set<String> called = new TreeSet<>();
        for (String line : text.split("\\R")) {
            Matcher heading = HEADING.matcher(line);
            Matcher call = CALL.matcher(line);
            if (heading.find()) {
                String name = heading.group(1).equals(of) ? "<init>" : heading.group(1);
                called = calls.computeIfAbsent(of + "." + name, any -> new TreeSet<>());
            } else if (line.contains("// InvokeDynamic")) {
                called.add("InvokeDynamic");
            } else if (call.find()) {
                String name = call.group(1).replace("\"", "").replace("java/lang/", "");
                called.add(name.contains(".") ? name : of + "." + name);
            }
        }
    }

    private static void calls(Check check, Map<String, Set<String>> calls) {
        check.same("there are calls to look at", calls.containsKey("LintDesk.mend"), true);
        for (Map.Entry<String, Set<String>> one : calls.entrySet()) {
            for (String called : one.getValue()) {
                check.same(one.getKey() + " may call " + called,
                        calls.containsKey(called) || LIBRARY.contains(called), true);
            }
        }
        Map<String, Set<String>> reached = new TreeMap<>();
        for (String method : calls.keySet()) {
            reached.put(method, new TreeSet<>());
            reach(calls, method, reached.get(method));
        }
        for (String method : calls.keySet()) {
            check.same("the calls of " + method + " go at most eight deep",
                    deep(calls, reached, method, new TreeSet<>()) <= 8, true);
        }
    }

    private static void reach(Map<String, Set<String>> calls, String method, Set<String> reached) {
        for (String called : calls.get(method)) {
            if (calls.containsKey(called) && reached.add(called)) {
                reach(calls, called, reached);
            }
        }
    }

    /** How many methods stand open at once; those of one recursion, which call one another, are one. */
    private static int deep(Map<String, Set<String>> calls, Map<String, Set<String>> reached,
            String method, Set<String> seen) {
        int deepest = 0;
        seen.add(method);
        for (String called : calls.get(method)) {
            boolean recursion = calls.containsKey(called) && reached.get(called).contains(method);
            if (recursion && !seen.contains(called)) {
                deepest = Math.max(deepest, deep(calls, reached, called, seen) - 1);
            } else if (!recursion && calls.containsKey(called)) {
                deepest = Math.max(deepest, deep(calls, reached, called, new TreeSet<>()));
            }
        }
        return deepest + 1;
    }
}
