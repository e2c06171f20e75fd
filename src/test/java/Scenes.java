/** Objects in states that several tests begin with, and short words for what they look at. */
final class Scenes {
    static final int[] FIRST_TIMES = {3, 8, 3, 2, 4, 4, 2, 5, 6, 2, 12, 10, 3};

    private Scenes() {
    }

    /** All TIMES are 1, so that a COMMAND can go each tick. */
    static RowBank quick() {
        RowBank x = new RowBank();
        for (int rule = 0; rule <= 12; rule++) x.time(rule, 1);
        return x;
    }

    /** An ASK of each KIND, 0 .. 4. */
    static int put(RowBank x, int kind, int asker, int address) {
        switch (kind) {
            case 0: return x.ask(asker, address);
            case 1: return x.write(asker, address, 1);
            case 2: return x.mask(asker, address, 1, 1);
            case 3: return x.swap(asker, address, 1);
            default: return x.fence(asker);
        }
    }

    /** 12 wait, of all KINDS. */
    static RowBank full() {
        RowBank x = new RowBank();
        for (int i = 0; i < 12; i++) put(x, i % 5, i % 4, i);
        return x;
    }

    /** 400 came, of all KINDS, and none waits. */
    static RowBank allCame() {
        RowBank x = quick();
        for (int i = 0; i < 400; i++) {
            put(x, i % 5, i % 4, i % 16);
            if (i % 12 == 11) x.drain(500);
        }
        x.drain(500);
        return x;
    }

    static int last(RowBank x) {
        return x.count(6) - 1;
    }
}
