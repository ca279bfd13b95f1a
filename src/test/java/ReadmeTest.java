import java.io.IOException;
import java.lang.reflect.Method;
import java.lang.reflect.Modifier;
import java.net.URL;
import java.net.URLClassLoader;
import java.nio.charset.StandardCharsets;
import java.nio.file.Files;
import java.nio.file.Path;
import java.util.ArrayList;
import java.util.List;
import java.util.TreeSet;
import java.util.regex.Matcher;
import java.util.regex.Pattern;

/** Each call that README.md shows gives the answer that it shows, and its table tells of each call of the face. */
public final class ReadmeTest {
    private static final Pattern CALL = Pattern.compile("(court\\.(\\w+)\\(.*\\)); +// (-?\\d+|true|false)(: .*)?");
    private static final Pattern ROW = Pattern.compile("\\| `(\\w+)\\(([\\w, ]*)\\)` \\|(.*)\\|(.*)\\|(.*)\\|");
    private static final int NO_SUCH_THING = -9;

    private final TreeSet<String> shown = new TreeSet<>();
    private final StringBuilder helpers = new StringBuilder();
    private final StringBuilder steps = new StringBuilder();
    private int parts = 0;

    public static void main(String[] args) throws IOException, InterruptedException, ReflectiveOperationException {
        List<String> page = Files.readAllLines(Path.of("README.md"), StandardCharsets.US_ASCII);
        new ReadmeTest().examples(page);
        table(page);
        tests(page);
        Check.close("ReadmeTest");
    }

    /** What the examples call this with: an answer and the one that the page shows. */
    public static void due(String call, Object got, String want) {
        Check.due(call + " is " + got + ", shown as " + want, String.valueOf(got).equals(want), true);
    }

    // ---- the examples, each a method of a class that is made of them

    private void examples(List<String> page) throws IOException, InterruptedException, ReflectiveOperationException {
        for (int i = 0; i < page.size(); i++) {
            if (page.get(i).equals("```java")) {
                int end = i + 1 + page.subList(i + 1, page.size()).indexOf("```");
                example(page.subList(i + 1, end));
                i = end;
            }
        }
        for (Method m : ChequeredCloth.class.getDeclaredMethods()) {
            if (Modifier.isPublic(m.getModifiers())) {
                Check.due("answers of " + m.getName() + " are shown", shown.contains(m.getName()), true);
            }
        }
        Check.due("examples were seen", parts >= 4, true);
        run();
    }

    private void example(List<String> lines) {
        if (lines.get(0).startsWith("static ")) {
            helpers.append(String.join("\n", lines)).append("\n");
            return;
        }
        parts++;
        steps.append("public static void part").append(parts).append("() {\n");
        for (String line : lines) {
            Matcher call = CALL.matcher(line);
            if (call.matches()) {
                shown.add(call.group(2));
                steps.append("ReadmeTest.due(\"").append(call.group(1)).append("\", ").append(call.group(1))
                        .append(", \"").append(call.group(3)).append("\");\n");
            } else {
                Check.due("a call without its answer: " + line, line.startsWith("court."), false);
                steps.append(line).append("\n");
            }
        }
        steps.append("}\n");
    }

    private void run() throws IOException, InterruptedException, ReflectiveOperationException {
        Path folder = Files.createTempDirectory("readme");
        Path source = folder.resolve("Shown.java");
        Files.writeString(source, "public final class Shown {\n" + helpers + steps + "}\n");
        int wrong = new ProcessBuilder("javac", "-cp", System.getProperty("java.class.path"),
                "-d", folder.toString(), source.toString()).inheritIO().start().waitFor();
        Check.due("the examples compile", wrong, 0);
        if (wrong == 0) {
            try (URLClassLoader loader = new URLClassLoader(new URL[] {folder.toUri().toURL()})) {
                for (int part = 1; part <= parts; part++) {
                    loader.loadClass("Shown").getMethod("part" + part).invoke(null);
                }
            }
        }
        for (String name : new String[] {"Shown.java", "Shown.class", ""}) {
            Files.deleteIfExists(folder.resolve(name));
        }
    }

    // ---- the table

    private static void table(List<String> page) throws ReflectiveOperationException {
        TreeSet<String> rows = new TreeSet<>();
        for (String line : page) {
            Matcher row = ROW.matcher(line);
            if (row.matches()) {
                rows.add(row.group(1));
                row(row.group(1), row.group(2), row.group(5).trim());
                bounds(row.group(1), row.group(2).split(", "), row.group(3));
            }
        }
        TreeSet<String> face = new TreeSet<>();
        for (Method m : ChequeredCloth.class.getDeclaredMethods()) {
            if (Modifier.isPublic(m.getModifiers())) {
                face.add(m.getName());
            }
        }
        Check.due("the table has each call of the face: " + rows, rows.equals(face), true);
    }

    private static void row(String name, String numbers, String refused) throws ReflectiveOperationException {
        Method method = null;
        for (Method m : ChequeredCloth.class.getDeclaredMethods()) {
            method = m.getName().equals(name) ? m : method;
        }
        Check.due("a call of the face: " + name, method != null, true);
        int count = numbers.isEmpty() ? 0 : numbers.split(", ").length;
        if (method == null || method.getParameterCount() != count) {
            Check.due("numbers of " + name, count, method == null ? -1 : method.getParameterCount());
            return;
        }
        if (refused.equals("is never refused")) {
            Check.due(name + " takes nothing", count, 0);
            return;
        }
        ChequeredCloth court = new ChequeredCloth();
        for (int i = 0; i < 30; i++) {
            court.feed(0, 0, 0, 0, 0);
        }
        Matcher answer = Pattern.compile("`(\\S+)`.*").matcher(refused);
        Check.due("what refused calls of " + name + " answer is told first", answer.matches(), true);
        due("a refused " + name, method.invoke(court, noSuchThings(method)), answer.group(1).replace("NONE", "-1"));
    }

    /** Where all that a call takes is told by bounds: a new object takes it at them, and not beside them. */
    private static void bounds(String name, String[] numbers, String takes) throws ReflectiveOperationException {
        List<long[]> bounds = new ArrayList<>();
        Matcher found = Pattern.compile("(\\d+) \\.\\. (\\d+)").matcher(takes);
        while (found.find()) {
            bounds.add(new long[] {Long.parseLong(found.group(1)), Long.parseLong(found.group(2))});
        }
        boolean needsMore = "end cut draw force".contains(name);
        if (bounds.size() < numbers.length - (name.equals("slip") ? 1 : 0) || needsMore) {
            return;
        }
        for (int i = 0; i < bounds.size(); i++) {
            for (int side = 0; side < 2; side++) {
                long bound = bounds.get(i)[side];
                Check.due(name + " takes " + bound, isRefused(name, numbers.length, bounds, i, bound), false);
                Check.due(name + " does not take what is beside " + bound,
                        isRefused(name, numbers.length, bounds, i, bound + (side == 0 ? -1 : 1)), true);
            }
        }
    }

    private static boolean isRefused(String name, int count, List<long[]> bounds, int which, long number)
            throws ReflectiveOperationException {
        for (Method m : ChequeredCloth.class.getDeclaredMethods()) {
            if (m.getName().equals(name)) {
                Object[] numbers = new Object[count];
                for (int i = 0; i < count; i++) {
                    long n = i == which ? number : i < bounds.size() ? bounds.get(i)[0] : 0;
                    numbers[i] = m.getParameterTypes()[i] == long.class ? (Object) n : (Object) (int) n;
                }
                Object got = m.invoke(new ChequeredCloth(), numbers);
                return String.valueOf(got).matches("false|-1|-2|-2000000000000");
            }
        }
        return true;
    }

    private static Object[] noSuchThings(Method method) {
        List<Object> numbers = new ArrayList<>();
        for (Class<?> type : method.getParameterTypes()) {
            numbers.add(type == boolean.class ? (Object) false : type == long.class ? (Object) (long) NO_SUCH_THING
                    : (Object) NO_SUCH_THING);
        }
        return numbers.toArray();
    }

    // ---- the tests

    /** Each test and each class inside is named. */
    private static void tests(List<String> page) throws IOException {
        String all = String.join("\n", page);
        try (var files = Files.list(Path.of("src/test/java"))) {
            files.map(f -> f.getFileName().toString()).filter(f -> f.endsWith("Test.java"))
                    .forEach(f -> Check.due(f + " is named", all.contains("`" + f.replace(".java", "") + "`"), true));
        }
        for (Class<?> c : ChequeredCloth.class.getDeclaredClasses()) {
            Check.due(c.getSimpleName() + " is named", all.contains("`" + c.getSimpleName() + "`"), true);
        }
        Check.due("the bound of calls is told", all.contains("at most 512\ncalls"), true);
    }
}
