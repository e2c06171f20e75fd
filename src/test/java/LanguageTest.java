import java.io.IOException;
import java.lang.reflect.Field;
import java.lang.reflect.Method;
import java.lang.reflect.Modifier;
import java.nio.file.Files;
import java.nio.file.Path;
import java.util.Set;
import java.util.regex.Matcher;
import java.util.regex.Pattern;

/** What of LANGUAGE.md's rules can be seen in the class's text and its members. */
public final class LanguageTest {
    private static final Checks CHECKS = new Checks();
    private static final String[] BANNED = {"->", "::", "\\bfinally\\b", "\\bsynchronized\\b", "\\bassert\\b", "\\btry\\s*\\(",
        "\\bpackage\\b", "\\bstatic\\s*\\{", "\\bObject\\b", "\\w+Exact\\b", "\\bgetMessage\\b", "\\bdouble\\b", "\\bfloat\\b",
        "\\bhashCode\\b", "\\btoString\\b", "\\bequals\\b", "\\bThread\\b", "\\bRandom\\b", "\\bnative\\b", "\\bvolatile\\b",
        "\\bprotected\\b", "@(?!Override\\b)\\w+"};
    private static final Set<String> IMPORTS = Set.of("java.util.Arrays", "java.util.ArrayList", "java.util.List",
        "java.util.Iterator", "java.util.NoSuchElementException");
    private static final Set<String> LIBRARY = Set.of("System.arraycopy", "Arrays.copyOf", "Arrays.copyOfRange", "Arrays.fill",
        "Math.max", "Math.min", "Math.abs", "Math.floorMod", "Math.floorDiv", "Integer.compare", "Integer.bitCount");
    /** Rule 6 has more, but the others are those that the machine throws, or stand above them. */
    private static final Set<String> CAUGHT = Set.of("IllegalStateException", "IllegalArgumentException",
        "UnsupportedOperationException", "NoSuchElementException");
    private static final Set<Class<?>> CONSTANTS = Set.of(int.class, long.class, boolean.class, char.class, String.class,
        int[].class, long[].class, char[].class, byte[].class);

    public static void main(String[] args) throws IOException {
        String text = Files.readString(Path.of("src/main/java/RowBank.java"));
        CHECKS.holds("signs 1 to 127 alone", text.chars().allMatch(c -> c >= 1 && c <= 127));
        String code = text.replaceAll("(?s)/\\*.*?\\*/", " ").replaceAll("//[^\n]*", " ").replaceAll("\"[^\"]*\"", "\"\"");
        for (String banned : BANNED) CHECKS.holds("no " + banned, !Pattern.compile(banned).matcher(code).find());
        names("import ([\\w.]+);", code, IMPORTS);
        names("\\b((?:System|Arrays|Math|Integer|Long)\\.\\w+)", code.replaceAll("import [^;]*;", ""), LIBRARY);
        names("catch \\((\\w+) ", code, CAUGHT);
        names("throw new (\\w+)\\(", code, CAUGHT);
        CHECKS.holds("each throw makes its exception", count("\\bthrow\\b", code) == count("\\bthrow new \\w+\\(\"", code));
        methodsStayShort(code);
        Class<?>[] inside = RowBank.class.getDeclaredClasses();
        CHECKS.holds("some twelve classes", inside.length + 1 <= 12);
        members(RowBank.class);
        for (Class<?> c : inside) members(c);
        CHECKS.end("LanguageTest");
    }

    private static int count(String pattern, String code) {
        Matcher m = Pattern.compile(pattern).matcher(code);
        int n = 0;
        while (m.find()) n++;
        return n;
    }

    private static void names(String pattern, String code, Set<String> known) {
        Matcher m = Pattern.compile(pattern).matcher(code);
        while (m.find()) CHECKS.holds(m.group() + " is within the rules", known.contains(m.group(1)));
    }

    /** From a line that opens a method to the one that closes it, by their indent. */
    private static void methodsStayShort(String code) {
        String[] lines = code.split("\n");
        Pattern head = Pattern.compile("^( {4}| {8})\\S[^=;]*\\)[^=;]*\\{$");
        int methods = 0;
        for (int i = 0; i < lines.length; i++) {
            Matcher m = head.matcher(lines[i]);
            if (!m.find()) continue;
            int end = i;
            while (end < lines.length && !lines[end].equals(m.group(1) + "}")) end++;
            CHECKS.holds("at most 60 lines: " + lines[i].strip(), end - i < 60);
            methods++;
        }
        CHECKS.holds("methods were found", methods > 60);
    }

    private static void members(Class<?> c) {
        int fields = 0;
        for (Field f : c.getDeclaredFields()) {
            if (!Modifier.isStatic(f.getModifiers())) {
                fields++;
                continue;
            }
            CHECKS.holds(f + " is final", Modifier.isFinal(f.getModifiers()));
            CHECKS.holds(f + " is a constant", CONSTANTS.contains(f.getType()));
        }
        CHECKS.holds(c + " has some twenty fields at most", fields <= 20);
        for (Method m : c.getDeclaredMethods()) CHECKS.holds(m + " takes seven at most", m.getParameterCount() <= 7);
    }
}
