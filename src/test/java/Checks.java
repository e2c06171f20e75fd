/** Counts and prints the answers that are not as due. */
final class Checks {
    private int wrong = 0;
    private int asked = 0;

    void due(String call, long got, long want) {
        asked++;
        if (got != want) {
            wrong++;
            System.out.println(call + " answered " + got + ", due is " + want);
        }
    }

    void end(String name) {
        System.out.println(name + ": " + asked + " answers, " + wrong + " not as due");
        if (wrong != 0) System.exit(1);
    }

    /** What element answers; Long.MIN_VALUE: IllegalArgumentException, the one above: IllegalStateException. */
    static final long NO_ARGUMENT = Long.MIN_VALUE;
    static final long NO_STATE = Long.MIN_VALUE + 1;

    static long elementOf(RowBank bank, int d, int i) {
        try {
            return bank.element(d, i);
        } catch (IllegalArgumentException refused) {
            return NO_ARGUMENT;
        } catch (IllegalStateException refused) {
            return NO_STATE;
        }
    }
}
