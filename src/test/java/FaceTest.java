import java.io.IOException;
import java.lang.management.ManagementFactory;
import java.lang.reflect.Constructor;
import java.lang.reflect.Field;
import java.lang.reflect.Method;
import java.lang.reflect.Modifier;
import java.nio.file.Files;
import java.nio.file.Path;
import java.util.HashSet;
import java.util.List;
import java.util.Set;
import java.util.TreeSet;
import java.util.regex.Matcher;
import java.util.regex.Pattern;

/** The face that the document tells, the rules of LANGUAGE.md that can be seen from outside, and the room. */
public final class FaceTest {
    private static final List<String> METHODS = List.of(
            "boolean person(int,int,boolean,int,boolean)", "boolean item(int)", "int feed(long,long,long)",
            "int plan(int)", "int body()", "int reader(int)", "int question(int,int,int)", "int sit(int,int,int)",
            "int jump(int,int,int) throws java.util.NoSuchElementException", "int says(int,int,int)",
            "int leans(int,int)", "int hits(int,int)", "int rates(int,int,int,int,int)",
            "int tricked(int,int,int,int)", "int apart(int,int,int)", "int same(int,int)",
            "int best(int,int,int,int)", "long odds(int,int,int,int)", "int items(int,int)",
            "long named(int,int,int,int,int,int,int)", "boolean confess(boolean,boolean,boolean,int)",
            "long worth(int,int) throws java.util.NoSuchElementException", "boolean paper(boolean,int,int)",
            "long lean(int) throws java.util.NoSuchElementException", "boolean mark(int,boolean)", "int count(int)");
    private static final Pattern OUTSIDE = Pattern.compile("\\b(finally|synchronized|assert|try|catch|protected|"
            + "System\\.(?!arraycopy)|Random|Thread|Exact|ordinal|hashCode|toString|->|::)\\b|->|::");

    public static void main(String[] args) throws IOException {
        document();
        face();
        inside();
        source();
        room();
        Check.due("NONE", PenThatJumps.NONE, -1);
        Check.end();
    }

    /** METHODS is the face of the document, and each promise tells one call of it (the first: the constructor). */
    private static void document() throws IOException {
        String text = Files.readString(Path.of("../shared/DOC.md"));
        String block = text.substring(text.indexOf("public final class"), text.indexOf("## Terms"));
        Set<String> shown = new TreeSet<>();
        Matcher line = Pattern.compile("public (\\w+ \\w+\\(.*);").matcher(block);
        while (line.find()) {
            shown.add(typesAlone(line.group(1)));
        }
        Check.due("the face of the document " + shown, shown.equals(new TreeSet<>(METHODS)), true);
        Check.due("the constant", block.contains("public static final int NONE = -1;"), true);
        Check.due("the constructor", block.contains("public PenThatJumps();"), true);
        Matcher promise = Pattern.compile("## Promise (\\d+): (.*)\n\n`(.*?)`: ").matcher(text);
        int promises = 0;
        while (promise.find()) {
            promises++;
            Check.due("number of promise " + promise.group(2), Integer.parseInt(promise.group(1)), promises);
            String due = promises == 1 ? "PenThatJumps()" : METHODS.get(promises - 2);
            Check.due("promise " + promises, typesAlone(promise.group(3)), due);
        }
        Check.due("promises", promises, METHODS.size() + 1);
    }

    private static String typesAlone(String call) {
        return call.replaceAll("(int|long|boolean) \\w+([,)])", "$1$2").replace(", ", ",")
                .replace("throws NoSuch", "throws java.util.NoSuch");
    }

    private static void face() {
        Class<?> type = PenThatJumps.class;
        Check.due("public and final", type.getModifiers(), Modifier.PUBLIC | Modifier.FINAL);
        Set<String> found = new TreeSet<>();
        Set<String> names = new HashSet<>();
        for (Method m : type.getDeclaredMethods()) {
            if (Modifier.isPublic(m.getModifiers())) {
                found.add(m.toGenericString().replace("public ", "").replace("PenThatJumps.", ""));
                names.add(m.getName());
            }
        }
        Check.due("the methods " + found, found.equals(new TreeSet<>(METHODS)), true);
        for (Method m : type.getDeclaredMethods()) {
            boolean open = Modifier.isPublic(m.getModifiers());
            Check.due("private or of the face: " + m, open || Modifier.isPrivate(m.getModifiers()), true);
            Check.due("a name of its own: " + m, open || !names.contains(m.getName()), true);
        }
        for (Field f : type.getDeclaredFields()) {
            boolean told = f.getName().equals("NONE");
            int open = f.getModifiers() & (Modifier.PUBLIC | Modifier.PRIVATE);
            Check.due("private or of the face: " + f, open, told ? Modifier.PUBLIC : Modifier.PRIVATE);
            statics(f);
        }
        for (Constructor<?> c : type.getDeclaredConstructors()) {
            Check.due("constructor", c.toString().equals("public PenThatJumps()"), true);
        }
    }

    private static void inside() {
        Class<?>[] classes = PenThatJumps.class.getDeclaredClasses();
        Check.due("at most twelve classes", classes.length <= 11, true);
        for (Class<?> c : classes) {
            Check.due("static: " + c, Modifier.isStatic(c.getModifiers()), true);
            int fields = 0;
            for (Field f : c.getDeclaredFields()) {
                statics(f);
                fields += Modifier.isStatic(f.getModifiers()) ? 0 : 1;
            }
            Check.due("at most twenty fields: " + c, fields <= 20, true);
            for (Method m : c.getDeclaredMethods()) {
                Check.due("at most seven parameters: " + m, m.getParameterCount() <= 7, true);
                boolean taken = METHODS.stream().anyMatch(told -> told.contains(" " + m.getName() + "("));
                Check.due("a name of its own: " + m, taken, false);
            }
        }
    }

    private static void statics(Field f) {
        boolean fixed = Modifier.isFinal(f.getModifiers());
        Check.due("a static field is final: " + f, fixed || !Modifier.isStatic(f.getModifiers()), true);
    }

    /** Tests are started in the project's folder. */
    private static void source() throws IOException {
        String text = Files.readString(Path.of("src/main/java/PenThatJumps.java"));
        String code = text.replaceAll("(?s)/\\*.*?\\*/", "").replaceAll("//[^\n]*", "");
        Matcher outside = OUTSIDE.matcher(code);
        Check.due("nothing outside the language", outside.find(), false);
        Check.due("signs 1 to 127 alone", text.chars().allMatch(c -> c < 128), true);
        Check.due("two imports", code.split("import ").length - 1, 2);
        Check.due("no package", code.contains("package "), false);
        Matcher method = Pattern.compile("(?ms)^( +)\\w[^\n;=]*\\) (throws \\w+ )?\\{\n(.*?)^\\1\\}").matcher(code);
        int methods = 0;
        while (method.find()) {
            methods++;
            long lines = method.group().lines().count();
            Check.due("at most sixty lines: " + method.group().lines().findFirst().orElse(""), lines <= 60, true);
        }
        Check.due("methods that were looked at: " + methods, methods > 100, true);
    }

    /** What the objects and the dearest calls of a run take: rows are made once and used again. */
    private static void room() {
        com.sun.management.ThreadMXBean threads =
                (com.sun.management.ThreadMXBean) ManagementFactory.getThreadMXBean();
        dearest(new PenThatJumps());
        long before = threads.getCurrentThreadAllocatedBytes();
        PenThatJumps x = new PenThatJumps();
        long made = threads.getCurrentThreadAllocatedBytes() - before;
        Check.due("bytes of a new object: " + made, made < 60_000, true);
        fill(x);
        before = threads.getCurrentThreadAllocatedBytes();
        dearest(x);
        long used = threads.getCurrentThreadAllocatedBytes() - before;
        Check.due("bytes of dear calls: " + used, used < 10_000, true);
    }

    private static void fill(PenThatJumps x) {
        for (int i = 0; i < 8; i++) {
            x.person(i, i, i % 2 == 0, i, i % 3 == 0);
        }
        Check.plan(x, 0, "ask known 1;".repeat(12));
        Check.body(x, "line 0 = fear" + " + place * noise".repeat(50) + ";");
        Check.reader(x, 0, "says when 50 < known 0" + " + real 1 * others 2".repeat(40) + ";");
    }

    private static void dearest(PenThatJumps x) {
        for (int i = 0; i < 20; i++) {
            x.sit(i % 8, 0, i);
            x.rates(0, 0, 0, 40, 0);
            x.named(100, 10, 0, 0, 0, 40, 0);
            x.tricked(1, 0, 0, 40);
            x.same(0, 3);
            x.best(0, 3, 50, 0);
            x.leans(i, 0);
            x.mark(i % 4, false);
            x.odds(9, 9, 1, 0);
        }
    }
}
