import java.io.IOException;
import java.lang.reflect.InvocationTargetException;
import java.lang.reflect.Method;
import java.lang.reflect.Modifier;
import java.nio.file.Files;
import java.nio.file.Path;
import java.util.HashMap;
import java.util.Map;
import java.util.Set;
import java.util.TreeSet;
import java.util.regex.Matcher;
import java.util.regex.Pattern;
import java.util.stream.Stream;

/** What README.md shows: each call of its java blocks is made, and answers what stands behind it. */
public final class ReadmeTest {
    private static final Checks CHECKS = new Checks();
    private static final Pattern BLOCK = Pattern.compile("(?ms)^```java\n(.*?)^```$");
    private static final Pattern MADE = Pattern.compile("RowBank (\\w+) = new RowBank\\(\\);");
    private static final Pattern CALL = Pattern.compile(
        "(?:(int|long) (\\w+) = )?(\\w+)\\.(\\w+)\\(([^()]*)\\); +// (-?\\d+|throws \\w+)(?:: \\S.*)?");
    private static final Set<String> SHOWN = new TreeSet<>();

    /** The names of one block, as its lines make them. */
    private final Map<String, RowBank> objects = new HashMap<>();
    private final Map<String, Long> numbers = new HashMap<>();

    public static void main(String[] args) throws IOException, IllegalAccessException {
        String readme = Files.readString(Path.of("README.md"));
        Matcher block = BLOCK.matcher(readme);
        while (block.find()) new ReadmeTest().follow(block.group(1));
        Set<String> face = new TreeSet<>();
        for (Method m : RowBank.class.getDeclaredMethods()) {
            if (Modifier.isPublic(m.getModifiers())) face.add(m.getName());
        }
        for (String name : face) CHECKS.holds("README.md shows " + name, SHOWN.contains(name));
        testsAreNamed(readme);
        CHECKS.end("ReadmeTest");
    }

    /** A line that is neither of the forms is a fault: it would stand there untested. */
    private void follow(String lines) throws IllegalAccessException {
        for (String line : lines.split("\n")) {
            Matcher made = MADE.matcher(line);
            Matcher call = CALL.matcher(line);
            if (made.matches()) {
                objects.put(made.group(1), new RowBank());
            } else if (call.matches() && objects.containsKey(call.group(3))) {
                answers(line, call);
            } else {
                CHECKS.holds("a call with its answer: " + line, false);
            }
        }
    }

    private void answers(String line, Matcher call) throws IllegalAccessException {
        String[] written = call.group(5).isEmpty() ? new String[0] : call.group(5).split(", ");
        Method method = find(call.group(4), written.length);
        Object[] values = values(written);
        if (method == null || values == null) {
            CHECKS.holds("a call of the face, with numbers that are known: " + line, false);
            return;
        }
        SHOWN.add(method.getName());
        String got;
        try {
            Object answer = method.invoke(objects.get(call.group(3)), values);
            keepNumber(line, call, method, ((Number) answer).longValue());
            got = answer.toString();
        } catch (InvocationTargetException thrown) {
            got = "throws " + thrown.getCause().getClass().getSimpleName();
        }
        CHECKS.holds(line + " (it answers " + got + ")", got.equals(call.group(6)));
    }

    private void keepNumber(String line, Matcher call, Method method, long answer) {
        if (call.group(2) == null) return;
        CHECKS.holds("of the answer's type: " + line, method.getReturnType().getName().equals(call.group(1)));
        CHECKS.holds("a new name: " + line, numbers.put(call.group(2), answer) == null);
    }

    private static Method find(String name, int numbers) {
        for (Method m : RowBank.class.getDeclaredMethods()) {
            if (Modifier.isPublic(m.getModifiers()) && m.getName().equals(name) && m.getParameterCount() == numbers) return m;
        }
        return null;
    }

    /** Null, if one is neither written out nor a name of the block. */
    private Object[] values(String[] written) {
        Object[] values = new Object[written.length];
        for (int i = 0; i < written.length; i++) {
            Long named = numbers.get(written[i]);
            if (named == null && !written[i].matches("-?\\d{1,9}")) return null;
            values[i] = named != null ? named.intValue() : Integer.parseInt(written[i]);
        }
        return values;
    }

    /** The table of tests names each one that is there, and none else. */
    private static void testsAreNamed(String readme) throws IOException {
        Set<String> named = new TreeSet<>();
        Matcher row = Pattern.compile("(?m)^\\| `(\\w+)` \\| \\S.* \\|$").matcher(readme);
        while (row.find()) named.add(row.group(1));
        Set<String> there = new TreeSet<>();
        try (Stream<Path> files = Files.list(Path.of("src/test/java"))) {
            files.map(file -> file.getFileName().toString()).filter(name -> name.endsWith("Test.java"))
                .forEach(name -> there.add(name.replace(".java", "")));
        }
        CHECKS.holds("tests that are there " + there + ", and named " + named, there.equals(named));
    }
}
