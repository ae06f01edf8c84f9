import java.io.IOException;
import java.lang.reflect.InvocationTargetException;
import java.lang.reflect.Method;
import java.lang.reflect.Modifier;
import java.nio.file.Files;
import java.nio.file.Path;
import java.util.HashSet;
import java.util.NoSuchElementException;
import java.util.Set;
import java.util.regex.Matcher;
import java.util.regex.Pattern;
import java.util.stream.Stream;

/** What README.md says of the class is so. Tests are started in the project's folder. */
public final class ReadmeTest {
    private static final Path TESTS = Path.of("src/test/java");
    /** A call of the run, and what stands behind it up to a colon: its answer. */
    private static final Pattern CALL =
            Pattern.compile("(?:x\\.(\\w+)\\((.*)\\)|feed\\(x, \"(.*)\"\\)); +// ([^:]+?)(:.*)?");
    private static final Pattern ROW = Pattern.compile("\\| `(\\w+)\\(([^)]*)\\)` \\|.*");

    public static void main(String[] args) throws IOException {
        String page = Files.readString(Path.of("README.md"));
        run(page);
        helpers(page);
        rows(page);
        tests(page);
        Check.end();
    }

    private static String block(String page, String first) {
        int from = page.indexOf(first);
        int to = page.indexOf("```", from);
        return from < 0 || to < 0 ? "" : page.substring(from, to);
    }

    private static void run(String page) {
        PenThatJumps x = new PenThatJumps();
        Set<String> called = new HashSet<>();
        String[] lines = block(page, "PenThatJumps x = new PenThatJumps();").split("\n");
        for (int i = 1; i < lines.length; i++) {
            if (lines[i].isEmpty()) {
                continue;
            }
            Matcher call = CALL.matcher(lines[i]);
            boolean isCall = call.matches();
            Check.due("a call with its answer: " + lines[i], isCall, true);
            if (isCall) {
                String name = call.group(1);
                String got = name == null ? "" + Check.feed(x, call.group(3)) : made(x, name, call.group(2));
                Check.due(lines[i], got, call.group(4));
                called.add(name == null ? "feed" : name);
            }
        }
        everyMethod("the run calls", called);
    }

    private static void everyMethod(String told, Set<String> names) {
        for (Method m : PenThatJumps.class.getDeclaredMethods()) {
            if (Modifier.isPublic(m.getModifiers())) {
                Check.due(told + " " + m.getName(), names.contains(m.getName()), true);
            }
        }
    }

    private static Method method(String name) {
        for (Method m : PenThatJumps.class.getDeclaredMethods()) {
            if (m.getName().equals(name) && Modifier.isPublic(m.getModifiers())) {
                return m;
            }
        }
        throw new IllegalArgumentException("the class has no " + name);
    }

    private static String made(PenThatJumps x, String name, String written) {
        String[] words = written.isEmpty() ? new String[0] : written.split(", ");
        Object[] values = new Object[words.length];
        for (int i = 0; i < words.length; i++) {
            boolean so = words[i].equals("true") || words[i].equals("false");
            values[i] = so ? (Object) Boolean.valueOf(words[i]) : (Object) Integer.valueOf(words[i]);
        }
        try {
            return String.valueOf(method(name).invoke(x, values));
        } catch (InvocationTargetException e) {
            return e.getCause() instanceof NoSuchElementException ? "throws.NoSuchElementException" : "" + e.getCause();
        } catch (IllegalAccessException e) {
            return e.toString();
        }
    }

    /** The page shows how texts are fed as the tests do it. */
    private static void helpers(String page) throws IOException {
        String shared = Files.readString(TESTS.resolve("Check.java")).replaceAll("\\s+", " ");
        String shown = block(page, "static int feed(");
        Check.due("feed and packed are shown", shown.contains("static long packed("), true);
        for (String helper : shown.split("\n\n")) {
            Check.due("as in Check: " + helper, shared.contains(helper.replaceAll("\\s+", " ").trim()), true);
        }
    }

    private static void rows(String page) {
        Set<String> told = new HashSet<>();
        for (String line : page.split("\n")) {
            Matcher row = ROW.matcher(line);
            if (row.matches()) {
                int due = method(row.group(1)).getParameterCount();
                int shown = row.group(2).isEmpty() ? 0 : row.group(2).split(", ").length;
                Check.due("parameters in the row of " + row.group(1), shown, due);
                Check.due("one row of " + row.group(1), told.add(row.group(1)), true);
                boolean thrown = method(row.group(1)).getExceptionTypes().length > 0;
                Check.due("thrown in the row of " + row.group(1), line.contains("NoSuchElementException"), thrown);
            }
        }
        everyMethod("there is a row of", told);
    }

    private static void tests(String page) throws IOException {
        try (Stream<Path> files = Files.list(TESTS)) {
            for (Path file : files.toList()) {
                String name = file.getFileName().toString().replace(".java", "");
                Check.due("the page names " + name, page.contains("`" + name + "`"), true);
            }
        }
        Check.due("the page says how its tests are run", page.contains("\n.ci/run\n"), true);
    }
}
