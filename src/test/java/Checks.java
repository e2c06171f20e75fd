import java.io.IOException;
import java.nio.file.Files;
import java.nio.file.Path;

/** Counts and prints the answers that are not as due. */
final class Checks {
    private static final Path DOCUMENT = Path.of("../shared/DOC.md");
    /** Far above what any test takes, some ten seconds. */
    private static final long LONGEST_MILLISECONDS = 300_000;

    private int wrong = 0;
    private int asked = 0;
    private String document = null;
    private String quoted = "";

    Checks() {
        failIfEndless();
    }

    /** A call that doesn't end is a fault like any other: the test fails then, and doesn't hang. */
    static void failIfEndless() {
        Thread watch = new Thread(() -> {
            try {
                Thread.sleep(LONGEST_MILLISECONDS);
            } catch (InterruptedException ended) {
                return;
            }
            System.out.println("a call does not end, or the test takes far too long");
            Runtime.getRuntime().halt(1);
        });
        watch.setDaemon(true);
        watch.start();
    }

    /** The document's own words that the next checks are about: so a test says which sentence was broken. */
    void words(String words) {
        quoted = words;
        if (document == null) document = readDocument();
        if (!document.isEmpty()) due("the document says so", document.contains(words) ? 1 : 0, 1);
    }

    /** Nothing, if it isn't there: the answers can be looked at without it. */
    private static String readDocument() {
        try {
            return Files.readString(DOCUMENT).replaceAll("\\s+", " ");
        } catch (IOException unread) {
            System.out.println("quotes are not looked up: no " + DOCUMENT);
            return "";
        }
    }

    void due(String call, long got, long want) {
        asked++;
        if (got != want) {
            wrong++;
            System.out.println(call + " answered " + told(got) + ", due is " + told(want)
                + (quoted.isEmpty() ? "" : " (" + quoted + ")"));
        }
    }

    void holds(String what, boolean is) {
        due(what, is ? 1 : 0, 1);
    }

    private static String told(long answer) {
        if (answer == NO_ARGUMENT) return "throws.IllegalArgumentException";
        if (answer == NO_STATE) return "throws.IllegalStateException";
        return Long.toString(answer);
    }

    void end(String name) {
        System.out.println(name + ": " + asked + " answers, " + wrong + " not as due");
        if (wrong != 0) System.exit(1);
    }

    /** What element answers; Long.MIN_VALUE: IllegalArgumentException, the one above: IllegalStateException. */
    static final long NO_ARGUMENT = Long.MIN_VALUE;
    static final long NO_STATE = Long.MIN_VALUE + 1;

    static long elementOf(RowBank bank, int d, int i) {
        try {
            return bank.element(d, i);
        } catch (IllegalArgumentException refused) {
            return NO_ARGUMENT;
        } catch (IllegalStateException refused) {
            return NO_STATE;
        }
    }
}
