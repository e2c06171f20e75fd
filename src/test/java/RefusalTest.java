import java.util.function.ToLongFunction;

/** A refused call changes nothing: twins, one of which is refused, answer alike from then on. */
public final class RefusalTest {
    private static final Checks CHECKS = new Checks();
    private static final int[] FAR = {Integer.MIN_VALUE, Integer.MAX_VALUE};
    /** A BANK that has a ROW OPEN in the middle of things. */
    private static final int OPENED = 1;

    public static void main(String[] args) {
        settings();
        asks();
        ticksAndLog();
        shelves();
        CHECKS.end("RefusalTest");
    }

    /** In the middle of things: rows open, some done, some held, a refresh owed, shelves in use, a forged log. */
    private static RowBank middle(boolean full) {
        RowBank x = new RowBank();
        x.refresh(20, 3);
        x.order(1, 3);
        x.time(4, 6);
        x.write(0, 5, 77);
        x.ask(1, 5);
        x.swap(2, 700, 9);
        x.fence(2);
        x.ask(2, 64);
        x.run(21);
        x.mask(3, 700, 200, 15);
        x.ask(3, 701);
        x.fence(1);
        x.ask(1, 256);
        x.fence(1);
        for (int i = 0; full && i < 12; i++) x.ask(0, 5);
        x.forge(1, 3);
        x.check();
        x.keep(0, 1, 0);
        x.keep(1, 1, 3);
        x.keep(2, 3, 0);
        x.keep(3, 4, 0);
        x.make(4, 4, 20);
        x.copy(3, 0, 4, 2, 5);
        x.keep(5, 1, 1);
        return x;
    }

    private static String seen(RowBank x) {
        StringBuilder s = new StringBuilder();
        s.append(x.broken()).append(' ').append(x.next()).append(' ').append(x.beside());
        counts(s, x);
        for (int d = 0; d < 8; d++) {
            s.append(' ').append(x.weight(d)).append(' ').append(x.toss(d));
            for (int i = 0; i < 16; i += 5) s.append(' ').append(Checks.elementOf(x, d, i));
        }
        for (int i = 0; i < 13; i++) s.append(' ').append(x.at(i)).append(' ').append(x.look(i, 4)).append(' ').append(x.look(i, 6));
        for (int c = 0; c < 5; c++) for (int b = 0; b < 4; b++) s.append(' ').append(x.soonest(c, b));
        s.append(' ').append(x.octet(5)).append(' ').append(x.octet(700)).append(' ').append(x.check());
        s.append(' ').append(x.broken()).append(' ').append(x.run(7));
        counts(s, x);
        s.append(' ').append(x.drain(500)).append(' ').append(x.run(45));
        counts(s, x);
        for (int i = 0; i < 40; i++) s.append(' ').append(x.log(i, 0)).append(' ').append(x.log(i, 4));
        for (int i = 0; i < 13; i++) s.append(' ').append(x.look(i, 5)).append(' ').append(x.forge(0, 1));
        x.keep(6, 4, 0);
        for (int i = 0; i < 13; i++) s.append(' ').append(Checks.elementOf(x, 6, i));
        return s.append(' ').append(x.fence(0)).toString();
    }

    private static void counts(StringBuilder s, RowBank x) {
        for (int what = 0; what < 12; what++) s.append(' ').append(x.count(what));
        for (int asker = 0; asker < 4; asker++) s.append(' ').append(x.worst(asker)).append(' ').append(x.row(asker));
    }

    private static final String UNTOUCHED = seen(middle(false));
    private static final String UNTOUCHED_FULL = seen(middle(true));

    private static void refused(String call, long want, ToLongFunction<RowBank> done) {
        refused(call, want, false, done);
        refused(call + " (full)", want, true, done);
    }

    private static void refused(String call, long want, boolean full, ToLongFunction<RowBank> done) {
        RowBank x = middle(full);
        CHECKS.due(call, done.applyAsLong(x), want);
        boolean same = seen(x).equals(full ? UNTOUCHED_FULL : UNTOUCHED);
        CHECKS.due(call + " changes nothing", same ? 1 : 0, 1);
    }

    private static void settings() {
        for (int wrong : new int[] {-1, 13, FAR[0], FAR[1]}) refused("time of rule " + wrong, -1, x -> x.time(wrong, 5));
        for (int wrong : new int[] {-1, 0, 31, FAR[0], FAR[1]}) {
            for (int rule = 0; rule <= 12; rule += 4) {
                int r = rule;
                refused("time " + wrong + " of " + rule, -1, x -> x.time(r, wrong));
            }
        }
        for (int wrong : new int[] {-20, -1, 1, 19, 401, FAR[0], FAR[1]}) {
            refused("refresh every " + wrong, -1, x -> x.refresh(wrong, 1));
        }
        for (int wrong : new int[] {-1, 0, 9, FAR[0], FAR[1]}) {
            refused("refresh never, due " + wrong, -1, x -> x.refresh(0, wrong));
            refused("refresh due " + wrong, -1, x -> x.refresh(50, wrong));
        }
        for (int wrong : new int[] {-1, 3, FAR[0], FAR[1]}) refused("order " + wrong, -1, x -> x.order(wrong, 1));
        for (int wrong : new int[] {-1, 0, 21, FAR[0], FAR[1]}) {
            for (int order = 0; order <= 2; order++) {
                int o = order;
                refused("order " + order + ", limit " + wrong, -1, x -> x.order(o, wrong));
            }
        }
    }

    private static void asks() {
        for (int wrong : new int[] {-1, 4, FAR[0], FAR[1]}) {
            refused("ask of asker " + wrong, -1, x -> x.ask(wrong, 0));
            refused("write of asker " + wrong, -1, x -> x.write(wrong, 0, 0));
            refused("mask of asker " + wrong, -1, x -> x.mask(wrong, 0, 0, 0));
            refused("swap of asker " + wrong, -1, x -> x.swap(wrong, 0, 0));
            refused("fence of asker " + wrong, -1, x -> x.fence(wrong));
        }
        for (int wrong : new int[] {-1, 1024, FAR[0], FAR[1]}) {
            refused("ask of address " + wrong, -1, x -> x.ask(0, wrong));
            refused("write of address " + wrong, -1, x -> x.write(0, wrong, 0));
            refused("mask of address " + wrong, -1, x -> x.mask(0, wrong, 0, 0));
            refused("swap of address " + wrong, -1, x -> x.swap(0, wrong, 0));
        }
        for (int wrong : new int[] {-1, 256, FAR[0], FAR[1]}) {
            refused("write of " + wrong, -1, x -> x.write(0, 0, wrong));
            refused("mask of " + wrong, -1, x -> x.mask(0, 0, wrong, 0));
            refused("mask under " + wrong, -1, x -> x.mask(0, 0, 0, wrong));
            refused("swap of " + wrong, -1, x -> x.swap(0, 0, wrong));
        }
        refused("ask beyond 12", -2, true, x -> x.ask(0, 0));
        refused("write beyond 12", -2, true, x -> x.write(0, 0, 0));
        refused("mask beyond 12", -2, true, x -> x.mask(0, 0, 0, 0));
        refused("swap beyond 12", -2, true, x -> x.swap(0, 0, 0));
        refused("fence beyond 12", -2, true, x -> x.fence(0));
    }

    private static void ticksAndLog() {
        for (int wrong : new int[] {-1, 0, 501, FAR[0], FAR[1]}) {
            refused("run " + wrong, -1, x -> x.run(wrong));
            refused("drain " + wrong, -1, x -> x.drain(wrong));
        }
        for (int wrong : new int[] {-1, 400, FAR[0], FAR[1]}) refused("look at " + wrong, -1, x -> x.look(wrong, 0));
        for (boolean full : new boolean[] {false, true}) {
            int came = middle(full).count(1);
            refused("look at the one to come", -1, full, x -> x.look(came, 0));
            refused("keep the one to come", -1, full, x -> x.keep(2, 1, came));
        }
        for (int wrong : new int[] {-1, 7, FAR[0], FAR[1]}) refused("look for " + wrong, -1, x -> x.look(0, wrong));
        for (int wrong : new int[] {-1, 5, FAR[0], FAR[1]}) refused("soonest of " + wrong, -1, x -> x.soonest(wrong, 0));
        for (int wrong : new int[] {-1, 4, FAR[0], FAR[1]}) {
            for (int command = 0; command <= 3; command++) {
                int c = command;
                refused("soonest of " + command + ", bank " + wrong, -1, x -> x.soonest(c, wrong));
            }
            refused("row of " + wrong, -1, x -> x.row(wrong));
            refused("worst of " + wrong, -1, x -> x.worst(wrong));
        }
        for (int wrong : new int[] {-1, 1024, FAR[0], FAR[1]}) refused("octet of " + wrong, -1, x -> x.octet(wrong));
        for (int wrong : new int[] {-1, 12, FAR[0], FAR[1]}) refused("count of " + wrong, -1, x -> x.count(wrong));
        logged();
        refused("at -1", -1, x -> x.at(-1));
        refused("at far below", -1, x -> x.at(FAR[0]));
        refused("at 12", -2, x -> x.at(12));
        refused("at far beyond", -2, x -> x.at(FAR[1]));
        refused("soonest of OPEN where one is", -2, x -> x.soonest(0, OPENED));
        refused("soonest of REFRESH", -2, x -> x.soonest(4, 0));
    }

    private static void logged() {
        int size = middle(false).count(6);
        for (int wrong : new int[] {-1, size, 400, FAR[0], FAR[1]}) {
            refused("log of " + wrong, -1, x -> x.log(wrong, 0));
            refused("forge of " + wrong, -1, x -> x.forge(wrong, 5));
        }
        for (int wrong : new int[] {-1, 5, FAR[0], FAR[1]}) refused("log for " + wrong, -1, x -> x.log(0, wrong));
        for (int wrong : new int[] {-1, 0, 1000001, FAR[0], FAR[1]}) {
            refused("forge at " + wrong, -1, x -> x.forge(0, wrong));
            refused("forge of the last at " + wrong, -1, x -> x.forge(size - 1, wrong));
        }
    }

    private static void shelves() {
        for (int wrong : new int[] {-1, 8, FAR[0], FAR[1]}) {
            refused("keep on " + wrong, -1, x -> x.keep(wrong, 0, 0));
            refused("make on " + wrong, -1, x -> x.make(wrong, 3, -1));
            refused("element of " + wrong, Checks.NO_ARGUMENT, x -> Checks.elementOf(x, wrong, 0));
            refused("copy from " + wrong, -1, x -> x.copy(wrong, 0, 4, 0, 1));
            refused("copy to " + wrong, -1, x -> x.copy(4, 0, wrong, 0, 1));
            refused("weight of " + wrong, -1, x -> x.weight(wrong));
            refused("toss of " + wrong, -1, x -> x.toss(wrong));
        }
        for (int wrong : new int[] {-1, 2, 5, FAR[0], FAR[1]}) {
            refused("keep what " + wrong, -1, x -> x.keep(0, wrong, 0));
            refused("make what " + wrong, -1, x -> x.make(2, wrong, 1));
        }
        for (int wrong : new int[] {-1, 400, FAR[0], FAR[1]}) refused("keep ask " + wrong, -1, x -> x.keep(2, 1, wrong));
        for (int wrong : new int[] {-1, 64, FAR[0], FAR[1]}) refused("keep row " + wrong, -1, x -> x.keep(0, 3, wrong));
        for (int what = 3; what <= 4; what++) {
            int w = what;
            for (int wrong : new int[] {61, FAR[1]}) refused("make " + wrong, -1, x -> x.make(2, w, wrong));
            for (int wrong : new int[] {-1, FAR[0]}) refused("make " + wrong, -14, x -> x.make(2, w, wrong));
        }
        refused("weight of nothing", -11, x -> x.weight(7));
        refused("weight of bytes", -12, x -> x.weight(2));
        refused("weight of ints", -12, x -> x.weight(3));
        refused("toss of nothing", -11, x -> x.toss(7));
        refused("toss of bytes", -12, x -> x.toss(2));
        refused("toss of ints", -12, x -> x.toss(3));
        refused("toss of a plain ask", -15, x -> x.toss(5));
        refused("element of nothing", Checks.NO_STATE, x -> Checks.elementOf(x, 7, 0));
        refused("element of an ask", Checks.NO_STATE, x -> Checks.elementOf(x, 0, 0));
        for (int wrong : new int[] {-1, 13, FAR[0], FAR[1]}) {
            refused("element " + wrong, Checks.NO_STATE, x -> Checks.elementOf(x, 3, wrong));
        }
        copies();
    }

    private static void copies() {
        refused("copy from nothing", -11, x -> x.copy(7, 0, 4, 0, 1));
        refused("copy to nothing", -11, x -> x.copy(4, 0, 7, 0, 1));
        refused("copy from an ask to nothing", -11, x -> x.copy(0, 0, 7, 0, 1));
        refused("copy from an ask", -12, x -> x.copy(0, 0, 4, 0, 1));
        refused("copy to an ask", -12, x -> x.copy(4, 0, 0, 0, -1));
        refused("copy bytes to ints", -12, x -> x.copy(2, 0, 4, 0, 1));
        refused("copy ints to bytes", -12, x -> x.copy(4, 0, 2, 0, 1));
        int[][] beyond = {{12, 0, 2}, {13, 0, 1}, {14, 0, 0}, {0, 19, 2}, {0, 20, 1}, {0, 21, 0}, {0, 0, 14}, {-1, 0, 1}, {0, -1, 1},
            {0, 0, -1}, {0, 0, FAR[1]}, {FAR[1], 0, FAR[1]}, {0, FAR[1], FAR[1]}, {FAR[0], FAR[0], FAR[0]}};
        for (int[] b : beyond) {
            refused("copy " + b[0] + " " + b[1] + " " + b[2], -13, x -> x.copy(3, b[0], 4, b[1], b[2]));
        }
    }
}
