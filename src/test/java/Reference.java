import java.util.ArrayList;
import java.util.Comparator;
import java.util.List;

/**
 * A second reading of the document, as plain as can be: it keeps every ask and every command and
 * looks through all of them for every question, so that it shares no shortcut with RowBank.
 */
final class Reference {
    static final class Req {
        int number, kind, asker, address = -2, v, mask = 255, came, done, answer = -2;
        /** How many commands had gone when it came, and when it was done. */
        int cameBehind, doneBehind;
    }

    static final class Cmd {
        int tick, told, which, bank = -2, where = -2, ask = -2, row = -2;
    }

    final int[] times = {3, 8, 3, 2, 4, 4, 2, 5, 6, 2, 12, 10, 3};
    final List<Req> reqs = new ArrayList<>();
    final List<Cmd> cmds = new ArrayList<>();
    final int[] bytes = new int[1024];
    final Object[] shelves = new Object[8];
    int tick = 1, every = 0, due = 4, owed = 0, order = 0, limit = 4, lastBroken = -2;

    static int rowOf(int a) {
        return a / 64;
    }

    static int bankOf(int a) {
        int bank = a / 16 % 4;
        int turned = rowOf(a) % 4;
        if (turned == 1 || turned == 3) bank = bank % 2 == 0 ? bank + 1 : bank - 1;
        if (turned == 2 || turned == 3) bank = bank < 2 ? bank + 2 : bank - 2;
        return bank;
    }

    // ---- settings and asks

    int time(int rule, int n) {
        if (rule < 0 || rule > 12 || n < 1 || n > 30) return -1;
        int was = times[rule];
        times[rule] = n;
        return was;
    }

    int refresh(int every, int due) {
        if (every != 0 && (every < 20 || every > 400) || due < 1 || due > 8) return -1;
        this.every = every;
        this.due = due;
        return 0;
    }

    int order(int order, int limit) {
        if (order < 0 || order > 2 || limit < 1 || limit > 20) return -1;
        this.order = order;
        this.limit = limit;
        return 0;
    }

    int put(int kind, int asker, int address, int v, int mask) {
        if (asker < 0 || asker > 3) return -1;
        if (kind != 4 && (address < 0 || address > 1023)) return -1;
        if (kind >= 1 && kind <= 3 && (v < 0 || v > 255)) return -1;
        if (kind == 2 && (mask < 0 || mask > 255)) return -1;
        if (waiting().size() == 12 || reqs.size() == 400) return -2;
        Req r = new Req();
        r.number = reqs.size();
        r.kind = kind;
        r.asker = asker;
        if (kind != 4) r.address = address;
        r.v = v;
        if (kind == 2) r.mask = mask;
        r.came = tick;
        r.cameBehind = cmds.size();
        reqs.add(r);
        return r.number;
    }

    List<Req> waiting() {
        List<Req> list = new ArrayList<>();
        for (Req r : reqs) if (r.done == 0) list.add(r);
        return list;
    }

    boolean held(Req r) {
        if (r.done != 0) return false;
        for (Req o : reqs) {
            if (o.number >= r.number || o.done != 0) continue;
            if (o.kind == 4 && o.asker == r.asker) return true;
            if (o.kind != 4 && r.kind != 4 && o.address == r.address && (o.kind != 0 || r.kind != 0)) return true;
        }
        return false;
    }

    // ---- order and rules

    int openRow(int bank) {
        int row = -2;
        for (Cmd c : cmds) {
            if (c.bank != bank) continue;
            if (c.which == 0) row = c.row;
            if (c.which == 1) row = -2;
        }
        return row;
    }

    boolean rowIsOpen(Req r) {
        return openRow(bankOf(r.address)) == rowOf(r.address);
    }

    int doneOf(int asker) {
        int n = 0;
        for (Req r : reqs) if (r.kind != 4 && r.asker == asker && r.done != 0) n++;
        return n;
    }

    /** READS and WRITES since the oldest one that waits became that. */
    int sinceOldest() {
        int since = 0;
        for (Req r : reqs) {
            if (r.kind == 4) continue;
            if (r.done == 0) {
                since = Math.max(since, r.cameBehind);
                break;
            }
            since = Math.max(since, r.doneBehind);
        }
        int n = 0;
        for (int i = since; i < cmds.size(); i++) if (cmds.get(i).which == 2 || cmds.get(i).which == 3) n++;
        return n;
    }

    List<Req> ordered() {
        List<Req> list = waiting();
        list.removeIf(r -> r.kind == 4);
        if (order == 1 && sinceOldest() < limit) {
            list.sort(Comparator.comparing((Req r) -> !rowIsOpen(r)).thenComparing(r -> r.number));
        }
        if (order == 2) {
            list.sort(Comparator.comparing((Req r) -> doneOf(r.asker)).thenComparing(r -> r.asker)
                .thenComparing(r -> r.number));
        }
        return list;
    }

    static boolean column(int which) {
        return which == 2 || which == 3;
    }

    /** Whether a rule keeps a later command so many ticks behind an earlier one. */
    static boolean binds(int rule, int later, int bank, Cmd earlier, int opensFromThere) {
        boolean same = bank == earlier.bank;
        boolean group = bank / 2 == earlier.bank / 2;
        switch (rule) {
            case 0: return column(later) && earlier.which == 0 && same;
            case 1: return later == 1 && earlier.which == 0 && same;
            case 2: return later == 0 && earlier.which == 1 && same;
            case 3: return later == 1 && earlier.which == 2 && same;
            case 4: return later == 1 && earlier.which == 3 && same;
            case 5: return column(later) && column(earlier.which) && group;
            case 6: return column(later) && column(earlier.which) && !group;
            case 7: return later == 3 && earlier.which == 2;
            case 8: return later == 2 && earlier.which == 3;
            case 9: return later == 0 && earlier.which == 0 && !same;
            case 10: return later == 0 && earlier.which == 0 && opensFromThere == 4;
            case 11: return earlier.which == 4;
            default: return later == 4 && earlier.which == 1;
        }
    }

    /** The least rule that a command at a tick would break behind the first n commands, or -2. */
    int breaks(int which, int bank, int at, int n, boolean told) {
        for (int rule = 0; rule <= 12; rule++) {
            int opens = 0;
            for (int i = n - 1; i >= 0; i--) {
                Cmd c = cmds.get(i);
                if (c.which == 0) opens++;
                if (binds(rule, which, bank, c, opens) && at - (told ? c.told : c.tick) < times[rule]) return rule;
            }
        }
        return -2;
    }

    boolean suits(int which, int bank) {
        if (which == 4) return openRow(0) == -2 && openRow(1) == -2 && openRow(2) == -2 && openRow(3) == -2;
        return (openRow(bank) == -2) == (which == 0);
    }

    boolean can(int which, int bank) {
        return suits(which, bank) && breaks(which, bank, tick, cmds.size(), false) == -2;
    }

    // ---- ticks

    void doFences() {
        for (Req f : reqs) {
            if (f.kind != 4 || f.done != 0) continue;
            boolean free = true;
            for (Req r : reqs) if (r.kind != 4 && r.done == 0 && r.asker == f.asker && r.number < f.number) free = false;
            if (free) f.done = tick;
        }
    }

    /** The command of this tick behind what comes first in it; null: none. */
    Cmd choice() {
        Cmd c = new Cmd();
        c.tick = c.told = tick;
        boolean idle = true;
        for (Req r : waiting()) if (r.kind != 4) idle = false;
        if (owed >= due || owed >= 1 && idle) {
            if (can(4, -2)) {
                c.which = 4;
                return c;
            }
            for (int b = 0; b < 4; b++) {
                if (can(1, b)) {
                    c.which = 1;
                    c.bank = b;
                    return c;
                }
            }
            return null;
        }
        List<Req> list = ordered();
        for (Req r : list) {
            if (held(r)) continue;
            c.bank = bankOf(r.address);
            c.ask = r.number;
            Req first = null;
            for (Req o : list) if (first == null && !held(o) && bankOf(o.address) == c.bank) first = o;
            if (rowIsOpen(r)) {
                c.which = r.kind == 0 ? 2 : 3;
                c.where = r.address % 16;
            } else if (r != first) {
                continue;
            } else if (openRow(c.bank) != -2) {
                c.which = 1;
                c.where = -2;
            } else {
                c.which = 0;
                c.row = rowOf(r.address);
                c.where = c.row;
            }
            if (can(c.which, c.bank)) return c;
        }
        return null;
    }

    void oneTick() {
        if (every != 0 && tick % every == 0) owed++;
        doFences();
        Cmd c = choice();
        if (c != null) {
            cmds.add(c);
            if (c.which == 4) owed--;
            if (column(c.which)) serve(reqs.get(c.ask));
        }
        tick++;
    }

    void serve(Req r) {
        int old = bytes[r.address];
        if (r.kind == 0 || r.kind == 3) r.answer = old;
        if (r.kind != 0) {
            int b = 0;
            for (int bit = 1; bit < 256; bit *= 2) b += ((r.mask & bit) != 0 ? r.v : old) & bit;
            bytes[r.address] = b;
        }
        r.done = tick;
        r.doneBehind = cmds.size();
    }

    int run(int n) {
        if (n < 1 || n > 500) return -1;
        int before = waiting().size();
        for (int i = 0; i < n; i++) oneTick();
        return before - waiting().size();
    }

    int drain(int n) {
        if (n < 1 || n > 500) return -1;
        int ticks = 0;
        while (ticks < n && !waiting().isEmpty()) {
            oneTick();
            ticks++;
        }
        return ticks;
    }

    int next() {
        List<Req> idle = new ArrayList<>();
        for (Req r : reqs) if (r.done == 0) idle.add(r);
        int owedBefore = owed;
        if (every != 0 && tick % every == 0) owed++;
        doFences();
        Cmd c = choice();
        for (Req r : idle) r.done = 0;
        owed = owedBefore;
        return c == null ? -2 : c.which;
    }

    // ---- what can be seen

    int look(int ask, int what) {
        if (ask < 0 || ask >= reqs.size() || what < 0 || what > 6) return -1;
        Req r = reqs.get(ask);
        int[] seen = {r.kind, r.asker, r.address, r.came, r.done, r.answer, held(r) ? 1 : 0};
        return seen[what];
    }

    int at(int i) {
        if (i < 0) return -1;
        List<Req> list = ordered();
        return i < list.size() ? list.get(i).number : -2;
    }

    int soonest(int which, int bank) {
        if (which < 0 || which > 4 || which != 4 && (bank < 0 || bank > 3)) return -1;
        if (!suits(which, bank)) return -2;
        int at = tick;
        while (breaks(which, which == 4 ? -2 : bank, at, cmds.size(), false) != -2) at++;
        return at;
    }

    int row(int bank) {
        return bank < 0 || bank > 3 ? -1 : openRow(bank);
    }

    int octet(int a) {
        return a < 0 || a > 1023 ? -1 : bytes[a];
    }

    int logged() {
        return Math.min(cmds.size(), 400);
    }

    int log(int i, int what) {
        if (i < 0 || i >= logged() || what < 0 || what > 4) return -1;
        Cmd c = cmds.get(i);
        return new int[] {c.tick, c.which, c.bank, c.where, c.ask}[what];
    }

    int forge(int i, int at) {
        if (i < 0 || i >= logged() || at < 1 || at > 1000000) return -1;
        int was = cmds.get(i).told;
        cmds.get(i).told = at;
        return was;
    }

    int check() {
        for (int i = 0; i < logged(); i++) {
            Cmd c = cmds.get(i);
            lastBroken = breaks(c.which, c.bank, c.told, i, true);
            if (lastBroken == -2 && i > 0 && c.told <= cmds.get(i - 1).told) lastBroken = 13;
            if (lastBroken != -2) return i;
        }
        lastBroken = -2;
        return -2;
    }

    int worst(int asker) {
        if (asker < 0 || asker > 3) return -1;
        int worst = -2;
        for (Req r : reqs) if (r.kind != 4 && r.asker == asker && r.done != 0) worst = Math.max(worst, r.done - r.came);
        return worst;
    }

    int which(int w) {
        int n = 0;
        for (Cmd c : cmds) if (c.which == w) n++;
        return n;
    }

    int count(int what) {
        if (what < 0 || what > 11) return -1;
        return new int[] {tick, reqs.size(), waiting().size(), owed, which(4), cmds.size(), logged(), which(0),
            doneOf(0), doneOf(1), doneOf(2), doneOf(3)}[what];
    }

    // ---- shelves: a Req, a byte[] or an int[]

    static boolean noShelf(int d) {
        return d < 0 || d > 7;
    }

    int keep(int d, int what, int k) {
        if (noShelf(d)) return -1;
        if (what == 0) {
            shelves[d] = null;
        } else if (what == 1) {
            if (k < 0 || k >= reqs.size()) return -1;
            shelves[d] = reqs.get(k);
        } else if (what == 3) {
            if (k < 0 || k > 63) return -1;
            byte[] row = new byte[16];
            for (int a = 0; a < 1024; a++) {
                if (rowOf(a) == k % 16 && bankOf(a) == k / 16) row[a % 16] = (byte) (bytes[a] - 128);
            }
            shelves[d] = row;
        } else if (what == 4) {
            shelves[d] = times.clone();
        } else {
            return -1;
        }
        return 0;
    }

    int make(int d, int what, int n) {
        if (noShelf(d) || what != 3 && what != 4 || n > 60) return -1;
        if (n < 0) return -14;
        shelves[d] = what == 3 ? (Object) new byte[n] : new int[n];
        return 0;
    }

    static int sizeOf(Object row) {
        return row instanceof byte[] ? ((byte[]) row).length : ((int[]) row).length;
    }

    static boolean isRow(Object o) {
        return o instanceof byte[] || o instanceof int[];
    }

    /** The element; Long.MIN_VALUE: IllegalArgumentException, the one above it: IllegalStateException. */
    long element(int d, int i) {
        if (noShelf(d)) return Long.MIN_VALUE;
        Object o = shelves[d];
        if (!isRow(o) || i < 0 || i >= sizeOf(o)) return Long.MIN_VALUE + 1;
        return o instanceof byte[] ? ((byte[]) o)[i] : ((int[]) o)[i];
    }

    int copy(int d, int i, int e, int j, int n) {
        if (noShelf(d) || noShelf(e)) return -1;
        Object from = shelves[d];
        Object to = shelves[e];
        if (from == null || to == null) return -11;
        if (!isRow(from) || !isRow(to) || from.getClass() != to.getClass()) return -12;
        if (n < 0 || i < 0 || j < 0 || (long) i + n > sizeOf(from) || (long) j + n > sizeOf(to)) return -13;
        long[] read = new long[n];
        for (int k = 0; k < n; k++) read[k] = element(d, i + k);
        for (int k = 0; k < n; k++) {
            if (to instanceof byte[]) ((byte[]) to)[j + k] = (byte) read[k];
            else ((int[]) to)[j + k] = (int) read[k];
        }
        return n;
    }

    int weight(int d) {
        if (noShelf(d)) return -1;
        if (shelves[d] == null) return -11;
        if (!(shelves[d] instanceof Req)) return -12;
        Req r = (Req) shelves[d];
        int[] more = {0, 20, 25 + r.asker + 20, 25 + r.asker + 21, 300};
        return 5 + r.asker + more[r.kind];
    }

    int toss(int d) {
        int w = weight(d);
        if (w < 0) return w;
        Req r = (Req) shelves[d];
        return r.kind == 0 ? -15 : r.number;
    }
}
