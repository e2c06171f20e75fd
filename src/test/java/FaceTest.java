import java.io.IOException;
import java.lang.reflect.Constructor;
import java.lang.reflect.Field;
import java.lang.reflect.Method;
import java.lang.reflect.Modifier;
import java.nio.file.Files;
import java.nio.file.Path;
import java.util.Arrays;
import java.util.Set;
import java.util.TreeSet;
import java.util.regex.Matcher;
import java.util.regex.Pattern;

/** The public face is the document's, no more and no less, and no private method bears one of its names. */
public final class FaceTest {
    private static final String[] FACE = {"int time(int, int)", "int refresh(int, int)", "int order(int, int)",
        "int ask(int, int)", "int write(int, int, int)", "int mask(int, int, int, int)", "int swap(int, int, int)",
        "int fence(int)", "int run(int)", "int drain(int)", "int next()", "int look(int, int)", "int at(int)",
        "int soonest(int, int)", "int row(int)", "int octet(int)", "int log(int, int)", "int forge(int, int)",
        "int check()", "int broken()", "int worst(int)", "int beside()", "int count(int)", "int keep(int, int, int)",
        "int make(int, int, int)", "long element(int, int)", "int copy(int, int, int, int, int)", "int weight(int)",
        "int toss(int)"};

    private static final Checks CHECKS = new Checks();

    private static void holds(String what, boolean is) {
        CHECKS.holds(what, is);
    }

    public static void main(String[] args) throws ReflectiveOperationException, IOException {
        int modifiers = RowBank.class.getModifiers();
        holds("public", Modifier.isPublic(modifiers));
        holds("final", Modifier.isFinal(modifiers));
        Constructor<?>[] constructors = RowBank.class.getDeclaredConstructors();
        holds("one constructor", constructors.length == 1);
        holds("public, with no arguments", Modifier.isPublic(constructors[0].getModifiers())
            && constructors[0].getParameterCount() == 0);
        Set<String> names = methods();
        asTheDocumentHasIt();
        for (Class<?> inside : RowBank.class.getDeclaredClasses()) {
            holds(inside + " is static", Modifier.isStatic(inside.getModifiers()));
            holds(inside + " is not public", !Modifier.isPublic(inside.getModifiers()));
            for (Method m : inside.getDeclaredMethods()) holds(m + " has a name of its own", !names.contains(m.getName()));
        }
        for (Field f : RowBank.class.getDeclaredFields()) {
            holds(f + " is private", Modifier.isPrivate(f.getModifiers()));
            if (Modifier.isStatic(f.getModifiers())) holds(f + " is final", Modifier.isFinal(f.getModifiers()));
        }
        Class<?>[] thrown = RowBank.class.getMethod("element", int.class, int.class).getExceptionTypes();
        holds("element's exceptions", Arrays.equals(thrown,
            new Class<?>[] {IllegalArgumentException.class, IllegalStateException.class}));
        CHECKS.end("FaceTest");
    }

    /** The list above is the document's own, which has the names of the numbers too. */
    private static void asTheDocumentHasIt() throws IOException {
        Set<String> written = new TreeSet<>();
        Matcher line = Pattern.compile("(?m)^ {4}public (int|long) (\\w+)\\((.*?)\\)(?: throws [\\w, ]+)?;$")
            .matcher(Files.readString(Path.of("../shared/DOC.md")));
        while (line.find()) {
            written.add(line.group(1) + " " + line.group(2) + "(" + line.group(3).replaceAll("(int|long) \\w+", "$1") + ")");
        }
        holds("the document's face " + written, written.equals(new TreeSet<>(Arrays.asList(FACE))));
    }

    private static Set<String> methods() {
        Set<String> found = new TreeSet<>();
        Set<String> names = new TreeSet<>();
        for (Method m : RowBank.class.getDeclaredMethods()) {
            if (Modifier.isPrivate(m.getModifiers())) continue;
            StringBuilder s = new StringBuilder();
            for (Class<?> p : m.getParameterTypes()) s.append(s.length() == 0 ? "" : ", ").append(p);
            found.add(m.getReturnType() + " " + m.getName() + "(" + s + ")");
            names.add(m.getName());
        }
        holds("the face", found.equals(new TreeSet<>(Arrays.asList(FACE))));
        for (Method m : RowBank.class.getDeclaredMethods()) {
            if (Modifier.isPrivate(m.getModifiers())) holds(m + " has a name of its own", !names.contains(m.getName()));
        }
        return names;
    }
}
