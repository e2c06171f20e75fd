/** Promises 25 to 30: SHELVES at their edges, and which of several refusals is answered first. */
public final class ShelfEdgesTest {
    private static final Checks CHECKS = new Checks();
    private static final int[] NO_SHELVES = {-1, 8, Integer.MIN_VALUE, Integer.MAX_VALUE};
    private static final int NOTHING = 7;

    private static void due(String call, long got, long want) {
        CHECKS.due(call, got, want);
    }

    public static void main(String[] args) {
        emptyAtFirst();
        eightShelves();
        keepWhat();
        keepAsk();
        keepRow();
        keepTimes();
        keepIsACopy();
        refusedKeep();
        makeSizes();
        makeRefusals();
        elementRefusals();
        elementOfEmptyRow();
        copyAll();
        copyNone();
        copyOntoItself();
        copyRefusals();
        copyPlaces();
        copyWrapsNotAround();
        copyRefusedFirst();
        weights();
        tosses();
        askRefusals();
        CHECKS.end("ShelfEdgesTest");
    }

    /** 0: a plain ASK; 1: a WRITE; 2: 16 bytes; 3: 13 ints; 4: 5 bytes; 5: 5 ints; 6: no ints; 7: nothing. */
    private static RowBank shelved() {
        RowBank x = new RowBank();
        x.ask(0, 0);
        x.write(1, 3, 255);
        x.drain(500);
        x.keep(0, 1, 0);
        x.keep(1, 1, 1);
        x.keep(2, 3, 0);
        x.keep(3, 4, 0);
        x.make(4, 3, 5);
        x.make(5, 4, 5);
        x.make(6, 4, 0);
        return x;
    }

    private static void elements(String name, RowBank x, int d, int... want) {
        for (int i = 0; i < want.length; i++) due(name + ", element " + i, Checks.elementOf(x, d, i), want[i]);
        due(name + ", no more", Checks.elementOf(x, d, want.length), Checks.NO_STATE);
    }

    private static void emptyAtFirst() {
        CHECKS.words("SHELVES 0 .. 7 each hold nothing (at first), an ASK, a ROW of bytes or ints.");
        RowBank x = new RowBank();
        for (int d = 0; d < 8; d++) {
            due("weight " + d, x.weight(d), -11);
            due("toss " + d, x.toss(d), -11);
            due("element " + d, Checks.elementOf(x, d, 0), Checks.NO_STATE);
            due("copy " + d, x.copy(d, 0, d, 0, 0), -11);
        }
    }

    private static void eightShelves() {
        CHECKS.words("SHELVES 0 .. 7 each hold nothing (at first), an ASK, a ROW of bytes or ints.");
        RowBank x = new RowBank();
        for (int d = 0; d < 8; d++) due("make " + d, x.make(d, 4, d + 1), 0);
        for (int d = 0; d < 8; d++) {
            due("last of " + d, Checks.elementOf(x, d, d), 0);
            due("beyond " + d, Checks.elementOf(x, d, d + 1), Checks.NO_STATE);
        }
        x.ask(0, 0);
        for (int d = 0; d < 8; d++) due("keep " + d, x.keep(d, 1, 0), 0);
        for (int d = 0; d < 8; d++) due("weight " + d, x.weight(d), 5);
        due("nothing on the last", x.keep(7, 0, 0), 0);
        due("the one before stays", x.weight(6), 5);
        for (int d : NO_SHELVES) {
            for (int what = 0; what <= 4; what++) due("keep on " + d, x.keep(d, what, 0), -1);
            due("make on " + d, x.make(d, 3, 1), -1);
            due("element of " + d, Checks.elementOf(x, d, 0), Checks.NO_ARGUMENT);
            due("copy from " + d, x.copy(d, 0, 0, 0, 0), -1);
            due("copy to " + d, x.copy(0, 0, d, 0, 0), -1);
            due("weight of " + d, x.weight(d), -1);
            due("toss of " + d, x.toss(d), -1);
        }
    }

    // ---- keep

    private static void keepWhat() {
        CHECKS.words("what = 0 nothing (k matters with 1 and 3 alone)");
        for (int k : new int[] {Integer.MIN_VALUE, -1, 0, 64, 400, Integer.MAX_VALUE}) {
            RowBank x = shelved();
            due("nothing, k " + k, x.keep(2, 0, k), 0);
            due("nothing is held", x.weight(2), -11);
            due("times, k " + k, x.keep(2, 4, k), 0);
            due("a row is held", x.weight(2), -12);
            due("nothing where nothing is", x.keep(NOTHING, 0, k), 0);
        }
        CHECKS.words("a ROW of ints: the TIMES of all RULES: 0. -1.");
        RowBank x = shelved();
        for (int what : new int[] {Integer.MIN_VALUE, -1, 2, 5, Integer.MAX_VALUE}) due("what " + what, x.keep(0, what, 0), -1);
        due("as it was", x.weight(0), 5);
    }

    private static void keepAsk() {
        CHECKS.words("1 ASK k");
        RowBank x = new RowBank();
        due("none came", x.keep(0, 1, 0), -1);
        x.ask(3, 0);
        x.fence(2);
        due("first", x.keep(0, 1, 0), 0);
        due("last", x.keep(1, 1, 1), 0);
        for (int k : new int[] {-1, 2, 400, Integer.MIN_VALUE, Integer.MAX_VALUE}) due("ask " + k, x.keep(0, 1, k), -1);
        due("first is held", x.weight(0), 8);
        due("last is held", x.weight(1), 307);
        x.drain(500);
        due("one that was done, too", x.weight(0), 8);
        due("keep one that was done", x.keep(7, 1, 1), 0);
    }

    private static void keepRow() {
        CHECKS.words("3 a ROW of bytes: those of ROW k modulo 16 of BANK k / 16 (k 0 .. 63), each less 128");
        for (int k = 0; k < 64; k++) {
            int row = k % 16;
            int bank = k / 16;
            int[] turned = {0, 1, 2, 3, 1, 0, 3, 2, 2, 3, 0, 1, 3, 2, 1, 0};
            int first = 64 * row + 16 * turned[4 * (row % 4) + bank];
            RowBank x = new RowBank();
            x.write(0, first, 255);
            x.write(0, first + 15, 128);
            x.drain(500);
            due("keep " + k, x.keep(0, 3, k), 0);
            elements("row " + k, x, 0, 127, -128, -128, -128, -128, -128, -128, -128, -128, -128, -128, -128, -128, -128,
                -128, 0);
        }
        for (int k : new int[] {-1, 64, Integer.MIN_VALUE, Integer.MAX_VALUE}) due("row " + k, new RowBank().keep(0, 3, k), -1);
    }

    private static void keepTimes() {
        CHECKS.words("4 a ROW of ints: the TIMES of all RULES");
        RowBank x = new RowBank();
        x.keep(0, 4, 0);
        elements("at first", x, 0, Scenes.FIRST_TIMES);
        x.time(0, 30);
        x.time(12, 1);
        x.keep(1, 4, 0);
        elements("now", x, 1, 30, 8, 3, 2, 4, 4, 2, 5, 6, 2, 12, 10, 1);
        elements("as they were", x, 0, Scenes.FIRST_TIMES);
    }

    private static void keepIsACopy() {
        CHECKS.words("SHELF d gets");
        RowBank x = shelved();
        x.copy(5, 0, 3, 0, 5);
        due("the TIME itself stays", x.time(0, 3), 3);
        x.make(4, 3, 16);
        x.copy(4, 0, 2, 0, 16);
        due("the byte itself stays", x.octet(3), 255);
        x.keep(0, 4, 0);
        due("a new row each time", Checks.elementOf(x, 0, 0), 3);
        x.write(0, 3, 1);
        x.keep(2, 3, 0);
        x.drain(500);
        due("as it was when it was kept", Checks.elementOf(x, 2, 3), 127);
    }

    private static void refusedKeep() {
        CHECKS.words("A refused call changes nothing.");
        RowBank x = shelved();
        int[][] refused = {{2, 1, 2}, {2, 1, -1}, {2, 3, 64}, {2, 3, -1}, {2, 2, 0}, {2, 5, 0}, {2, -1, 0}};
        for (int[] r : refused) {
            due("keep " + r[1] + " " + r[2], x.keep(r[0], r[1], r[2]), -1);
            due("as it was", Checks.elementOf(x, 2, 3), 127);
        }
    }

    // ---- make

    private static void makeSizes() {
        CHECKS.words("SHELF d gets a ROW of n bytes, or ints, 0 (what 3, 4; n up to 60): 0.");
        for (int what = 3; what <= 4; what++) {
            for (int n : new int[] {0, 1, 59, 60}) {
                RowBank x = new RowBank();
                due("make", x.make(7, what, n), 0);
                elements("made " + what + " " + n, x, 7, new int[n]);
                due("a row is held", x.weight(7), -12);
                due("of its kind", x.make(6, what, n) + x.copy(7, 0, 6, 0, n), n);
                due("not of the other", x.make(5, 7 - what, n) + x.copy(7, 0, 5, 0, n), -12);
            }
        }
    }

    private static void makeRefusals() {
        CHECKS.words("0. -1; -14: n is below 0.");
        RowBank x = shelved();
        for (int what = 3; what <= 4; what++) {
            due("61", x.make(2, what, 61), -1);
            due("far more", x.make(2, what, Integer.MAX_VALUE), -1);
            due("below 0", x.make(2, what, -1), -14);
            due("far below", x.make(2, what, Integer.MIN_VALUE), -14);
        }
        for (int what : new int[] {Integer.MIN_VALUE, -1, 0, 1, 2, 5, Integer.MAX_VALUE}) {
            due("what " + what, x.make(2, what, 1), -1);
            due("what " + what + ", and below 0", x.make(2, what, -1), -1);
        }
        for (int d : NO_SHELVES) due("no shelf, and below 0", x.make(d, 3, -1), -1);
        due("as it was", Checks.elementOf(x, 2, 3), 127);
    }

    // ---- element

    private static void elementRefusals() {
        CHECKS.words("IllegalArgumentException: no such SHELF; IllegalStateException: nothing is held, it is no ROW,"
            + " or has no such place.");
        RowBank x = shelved();
        for (int d : NO_SHELVES) {
            for (int i : new int[] {-1, 0, 99}) due("shelf " + d, Checks.elementOf(x, d, i), Checks.NO_ARGUMENT);
        }
        for (int i : new int[] {Integer.MIN_VALUE, -1, 0, 1, Integer.MAX_VALUE}) {
            due("nothing is held", Checks.elementOf(x, NOTHING, i), Checks.NO_STATE);
            due("it is an ask", Checks.elementOf(x, 0, i), Checks.NO_STATE);
        }
        int[][] sizes = {{2, 16}, {3, 13}, {4, 5}, {5, 5}};
        for (int[] s : sizes) {
            for (int i : new int[] {Integer.MIN_VALUE, -1, s[1], Integer.MAX_VALUE}) {
                due("no place " + i, Checks.elementOf(x, s[0], i), Checks.NO_STATE);
            }
            CHECKS.holds("first of " + s[0], Checks.elementOf(x, s[0], 0) >= -128);
            CHECKS.holds("last of " + s[0], Checks.elementOf(x, s[0], s[1] - 1) >= -128);
        }
    }

    private static void elementOfEmptyRow() {
        CHECKS.words("Element i, from 0, of the ROW on SHELF d.");
        RowBank x = shelved();
        for (int i : new int[] {-1, 0, 1}) due("no place in none", Checks.elementOf(x, 6, i), Checks.NO_STATE);
        due("but a row is held", x.weight(6), -12);
        due("the first", Checks.elementOf(x, 3, 0), 3);
        due("a byte below 0", Checks.elementOf(x, 2, 0), -128);
        due("the greatest byte", Checks.elementOf(x, 2, 3), 127);
    }

    // ---- copy

    private static void copyAll() {
        CHECKS.words("n elements of the ROW on SHELF d, from place i, come to the ROW on SHELF e, from place j"
            + " (as they all were before): n.");
        RowBank x = shelved();
        due("the whole", x.make(6, 4, 13) + x.copy(3, 0, 6, 0, 13), 13);
        elements("whole", x, 6, Scenes.FIRST_TIMES);
        due("the last to the last", x.copy(3, 12, 5, 4, 1), 1);
        elements("one", x, 5, 0, 0, 0, 0, 3);
        due("the first to the first", x.copy(3, 1, 5, 0, 1), 1);
        elements("two", x, 5, 8, 0, 0, 0, 3);
        due("the source stays", Checks.elementOf(x, 3, 1), 8);
        due("bytes", x.copy(2, 1, 4, 1, 4), 4);
        elements("bytes", x, 4, 0, -128, -128, 127, -128);
        x.make(0, 3, 60);
        x.make(1, 3, 60);
        due("60", x.copy(0, 0, 1, 0, 60), 60);
    }

    private static void copyNone() {
        CHECKS.words("(n 0 at the end is not)");
        RowBank x = shelved();
        due("at both ends", x.copy(3, 13, 5, 5, 0), 0);
        due("at both beginnings", x.copy(3, 0, 5, 0, 0), 0);
        due("between rows of none", x.copy(6, 0, 6, 0, 0), 0);
        due("from none", x.copy(6, 0, 5, 5, 0), 0);
        due("beyond one end", x.copy(3, 14, 5, 5, 0), -13);
        due("beyond the other", x.copy(3, 13, 5, 6, 0), -13);
        due("beyond a row of none", x.copy(6, 1, 6, 0, 0), -13);
        due("one of none", x.copy(6, 0, 5, 0, 1), -13);
        due("one to none", x.copy(5, 0, 6, 0, 1), -13);
        elements("nothing came", x, 5, 0, 0, 0, 0, 0);
    }

    private static void copyOntoItself() {
        CHECKS.words("(as they all were before)");
        RowBank x = shelved();
        due("a place on", x.copy(3, 0, 3, 1, 12), 12);
        elements("a place on", x, 3, 3, 3, 8, 3, 2, 4, 4, 2, 5, 6, 2, 12, 10);
        due("two back", x.copy(3, 2, 3, 0, 11), 11);
        elements("two back", x, 3, 8, 3, 2, 4, 4, 2, 5, 6, 2, 12, 10, 12, 10);
        due("in its place", x.copy(3, 0, 3, 0, 13), 13);
        elements("in its place", x, 3, 8, 3, 2, 4, 4, 2, 5, 6, 2, 12, 10, 12, 10);
        due("bytes on", x.copy(2, 2, 2, 3, 13), 13);
        due("bytes", Checks.elementOf(x, 2, 3) * 1000 + Checks.elementOf(x, 2, 4), -127873);
    }

    private static void copyRefusals() {
        CHECKS.words("-11: of either; -12: one is no ROW, or they are not of one kind");
        int[][] refused = {{NOTHING, 5, -11}, {5, NOTHING, -11}, {NOTHING, NOTHING, -11}, {NOTHING, 0, -11}, {0, NOTHING, -11},
            {0, 5, -12}, {5, 0, -12}, {0, 0, -12}, {0, 1, -12}, {2, 5, -12}, {5, 2, -12}, {4, 6, -12}, {6, 4, -12}};
        for (int[] r : refused) {
            due("copy from " + r[0] + " to " + r[1], shelved().copy(r[0], 0, r[1], 0, 1), r[2]);
            due("copy none from " + r[0] + " to " + r[1], shelved().copy(r[0], 0, r[1], 0, 0), r[2]);
        }
    }

    private static void copyPlaces() {
        CHECKS.words("-13: n, i or j is below 0, or beyond either's end (n 0 at the end is not).");
        RowBank x = shelved();
        int[][] refused = {{0, 0, -1}, {-1, 0, 1}, {0, -1, 1}, {-1, 0, 0}, {0, -1, 0}, {14, 0, 0}, {0, 6, 0}, {13, 0, 1},
            {0, 5, 1}, {0, 0, 6}, {0, 1, 5}, {9, 0, 5}, {-1, -1, -1}, {1, 1, -1}};
        for (int[] r : refused) due("copy " + r[0] + " " + r[1] + " " + r[2], x.copy(3, r[0], 5, r[1], r[2]), -13);
        elements("nothing came", x, 5, 0, 0, 0, 0, 0);
        int[][] backwards = {{0, 9, 5}, {1, 0, 5}, {0, 0, 6}, {5, 0, 1}, {0, 13, 1}};
        for (int[] r : backwards) due("back " + r[0] + " " + r[1] + " " + r[2], x.copy(5, r[0], 3, r[1], r[2]), -13);
        elements("nothing came back", x, 3, Scenes.FIRST_TIMES);
        due("just within", x.copy(3, 8, 5, 0, 5), 5);
        due("just within, back", x.copy(5, 0, 3, 8, 5), 5);
    }

    private static void copyWrapsNotAround() {
        CHECKS.words("-13: n, i or j is below 0, or beyond either's end");
        int max = Integer.MAX_VALUE;
        int min = Integer.MIN_VALUE;
        RowBank x = shelved();
        int[][] far = {{max, 0, 1}, {0, max, 1}, {0, 0, max}, {1, 1, max}, {max, max, max}, {min, 0, 1}, {0, min, 1}, {0, 0, min},
            {min, min, min}, {max, 0, min}, {1, 0, min}, {5, 5, min}, {max, max, 0}, {max, 0, 2}, {0, max, max}, {5, 0, max - 4},
            {min, 0, max}, {-1, 0, max}, {0, -1, max}};
        for (int[] f : far) {
            due("ints " + f[0] + " " + f[1] + " " + f[2], x.copy(3, f[0], 5, f[1], f[2]), -13);
            due("bytes " + f[0] + " " + f[1] + " " + f[2], x.copy(4, f[0], 2, f[1], f[2]), -13);
            due("none " + f[0] + " " + f[1] + " " + f[2], x.copy(6, f[0], 6, f[1], f[2]), -13);
        }
        elements("nothing came", x, 5, 0, 0, 0, 0, 0);
    }

    private static void copyRefusedFirst() {
        CHECKS.words("Answers of several refusals are the first one here: -1 no such thing, a number out of range,"
            + " or not as told; -2, -3, -11 to -15 as told.");
        RowBank x = shelved();
        for (int d : NO_SHELVES) {
            due("-1 before -11", x.copy(d, 0, NOTHING, 0, 1), -1);
            due("-1 before -11", x.copy(NOTHING, 0, d, 0, 1), -1);
            due("-1 before -12", x.copy(d, 0, 0, 0, 1), -1);
            due("-1 before -12", x.copy(0, 0, d, 0, 1), -1);
            due("-1 before -13", x.copy(5, -1, d, -1, -1), -1);
        }
        due("-11 before -12", x.copy(0, 0, NOTHING, 0, 1), -11);
        due("-11 before -12", x.copy(NOTHING, 0, 0, 0, 1), -11);
        due("-11 before -13", x.copy(NOTHING, -1, 5, -1, -1), -11);
        due("-11 before -13", x.copy(5, 99, NOTHING, 99, 99), -11);
        due("-12 before -13", x.copy(0, -1, 5, 0, 1), -12);
        due("-12 before -13", x.copy(2, 99, 5, 99, 99), -12);
        due("-12 before -13", x.copy(5, 0, 2, 0, -1), -12);
    }

    // ---- weight and toss

    private static void weights() {
        CHECKS.words("The WEIGHT of the ASK on SHELF d: 5 and its ASKER; of WRITES 20 more, of MASKED ones and SWAPS twice what"
            + " they would have as WRITES, and of SWAPS 1 more; of FENCES 300 more.");
        int[][] weights = {{5, 6, 7, 8}, {25, 26, 27, 28}, {50, 52, 54, 56}, {51, 53, 55, 57}, {305, 306, 307, 308}};
        for (int kind = 0; kind <= 4; kind++) {
            for (int asker = 0; asker <= 3; asker++) {
                RowBank x = new RowBank();
                Scenes.put(x, kind, asker, 1023);
                x.keep(7, 1, 0);
                due("kind " + kind + " of " + asker, x.weight(7), weights[kind][asker]);
                x.drain(500);
                due("when it was done", x.weight(7), weights[kind][asker]);
            }
        }
    }

    private static void tosses() {
        CHECKS.words("The FAILURE of the ASK on SHELF d is thrown, and caught: the ASK's number. -1, -11, -12;"
            + " -15: KIND 0 has none.");
        RowBank x = new RowBank();
        for (int i = 0; i < 10; i++) Scenes.put(x, i % 5, i % 4, i);
        for (int i = 0; i < 10; i++) {
            x.keep(i % 8, 1, i);
            due("toss of kind " + i % 5, x.toss(i % 8), i % 5 == 0 ? -15 : i);
            due("and again", x.toss(i % 8), i % 5 == 0 ? -15 : i);
        }
        RowBank y = Scenes.allCame();
        y.keep(0, 1, 399);
        due("the greatest number", y.toss(0), 399);
        y.keep(0, 1, 1);
        due("number 1", y.toss(0), 1);
        RowBank z = new RowBank();
        z.write(0, 0, 0);
        z.keep(0, 1, 0);
        due("number 0", z.toss(0), 0);
    }

    private static void askRefusals() {
        CHECKS.words("-11 nothing is held where something is wanted; -12 it is of another kind; -13 a place that it doesn't have;"
            + " -14 a size below 0; -15 a FAILURE that is none.");
        RowBank x = shelved();
        int[] due = {5, 26, -12, -12, -12, -12, -12, -11};
        for (int d = 0; d < 8; d++) due("weight of " + d, x.weight(d), due[d]);
        int[] tossed = {-15, 1, -12, -12, -12, -12, -12, -11};
        for (int d = 0; d < 8; d++) due("toss of " + d, x.toss(d), tossed[d]);
        for (int d : NO_SHELVES) {
            due("weight of " + d, x.weight(d), -1);
            due("toss of " + d, x.toss(d), -1);
        }
        x.keep(1, 0, 0);
        due("no more held", x.weight(1), -11);
        due("no more held", x.toss(1), -11);
    }
}
