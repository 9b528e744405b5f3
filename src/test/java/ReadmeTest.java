import java.io.IOException;
import java.lang.reflect.Method;
import java.lang.reflect.Modifier;
import java.nio.charset.StandardCharsets;
import java.nio.file.Files;
import java.nio.file.Path;
import java.util.List;
import java.util.Set;
import java.util.TreeSet;
import java.util.regex.Matcher;
import java.util.regex.Pattern;
import java.util.stream.Collectors;
import java.util.stream.Stream;

/** What README.md shows answers as README.md says; run from the project's folder. */
public final class ReadmeTest {
    private static final String MAKES = "DoubtCatcher x = new DoubtCatcher();";
    private static final Pattern CALL = Pattern.compile("x\\.(\\w+)\\((.*)\\); +// ((?:GONE \\+ )?-?\\w+)(?:[:,].*)?");
    private static final Pattern CONSTANT = Pattern.compile("\\| `(\\w+)` \\| (-?\\d+) \\|.*\\|");

    private static int wrong = 0;

    private static void fail(String why) {
        wrong++;
        System.out.println(why);
    }

    public static void main(String[] args) throws IOException, ReflectiveOperationException {
        List<String> lines = Files.readAllLines(Path.of("README.md"), StandardCharsets.US_ASCII);
        everyMethodIsIn(shownCalls(lines));
        constants(lines);
        testsAreNamed(lines);
        theWayToRunThem(lines);
        System.out.println(wrong == 0 ? "README.md tells what is so" : wrong + " wrong");
        if (wrong != 0) {
            System.exit(1);
        }
    }

    private static Set<String> shownCalls(List<String> lines) throws ReflectiveOperationException {
        Set<String> shown = new TreeSet<>();
        DoubtCatcher x = null;
        boolean inJava = false;
        for (String line : lines) {
            if (line.startsWith("```")) {
                inJava = line.equals("```java");
                x = null;
            } else if (inJava && line.equals(MAKES)) {
                x = new DoubtCatcher();
            } else if (inJava) {
                shown.add(shownCall(x, line));
            }
        }
        return shown;
    }

    private static String shownCall(DoubtCatcher x, String line) throws ReflectiveOperationException {
        Matcher m = CALL.matcher(line);
        if (x == null || !m.matches()) {
            fail("not a call with its answer on a made object: " + line);
            return "";
        }
        String[] texts = m.group(2).isEmpty() ? new String[0] : m.group(2).split(", ");
        Method method = methodOf(m.group(1));
        if (method == null || method.getParameterCount() != texts.length) {
            fail("no such call: " + line);
            return "";
        }
        Object[] values = new Object[texts.length];
        for (int i = 0; i < texts.length; i++) {
            values[i] = argument(texts[i], method.getParameterTypes()[i]);
        }
        long got = ((Number) method.invoke(x, values)).longValue();
        if (got != answer(m.group(3))) {
            fail("answered " + got + ": " + line);
        }
        return m.group(1);
    }

    private static Method methodOf(String name) {
        for (Method method : DoubtCatcher.class.getDeclaredMethods()) {
            if (method.getName().equals(name) && Modifier.isPublic(method.getModifiers())) {
                return method;
            }
        }
        return null;
    }

    private static Object argument(String text, Class<?> type) {
        if (type == boolean.class) {
            return Boolean.valueOf(text);
        }
        return text.matches("'.'") ? (int) text.charAt(1) : Integer.parseInt(text);
    }

    private static long answer(String text) throws ReflectiveOperationException {
        long sum = 0;
        for (String part : text.split(" \\+ ")) {
            sum += part.matches("-?\\d+") ? Long.parseLong(part) : constant(part);
        }
        return sum;
    }

    private static long constant(String name) throws ReflectiveOperationException {
        return ((Number) DoubtCatcher.class.getField(name).get(null)).longValue();
    }

    private static void everyMethodIsIn(Set<String> shown) {
        for (Method method : DoubtCatcher.class.getDeclaredMethods()) {
            if (Modifier.isPublic(method.getModifiers()) && !shown.contains(method.getName())) {
                fail("README.md shows no " + method.getName());
            }
        }
    }

    private static void constants(List<String> lines) throws ReflectiveOperationException {
        Set<String> told = new TreeSet<>();
        for (String line : lines) {
            Matcher m = CONSTANT.matcher(line);
            if (m.matches()) {
                told.add(m.group(1));
                if (constant(m.group(1)) != Long.parseLong(m.group(2))) {
                    fail("another number: " + line);
                }
            }
        }
        if (told.size() != DoubtCatcher.class.getFields().length) {
            fail("README.md tells of " + told);
        }
    }

    private static void testsAreNamed(List<String> lines) throws IOException {
        Set<String> named = lines.stream().filter(line -> line.matches("- `\\w+Test`: .*"))
            .map(line -> line.split("`")[1]).collect(Collectors.toCollection(TreeSet::new));
        try (Stream<Path> files = Files.list(Path.of("src/test/java"))) {
            Set<String> there = files.map(file -> file.getFileName().toString().replace(".java", ""))
                .collect(Collectors.toCollection(TreeSet::new));
            if (!named.equals(there)) {
                fail("README.md names " + named + ", there are " + there);
            }
        }
    }

    private static void theWayToRunThem(List<String> lines) throws IOException {
        int at = lines.indexOf("```sh");
        if (at < 0 || !lines.get(at + 1).equals(".ci/run") || !Files.isExecutable(Path.of(".ci/run"))) {
            fail("README.md does not say how to run the tests");
        }
        String script = Files.readString(Path.of(".ci/run"), StandardCharsets.US_ASCII);
        if (!script.contains("for test in ../shared/tests/*.java src/test/java/*.java; do")) {
            fail(".ci/run does not run them all");
        }
    }
}
