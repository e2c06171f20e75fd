import java.util.Random;

/** Runs of at most 512 calls, made from fixed seeds: RowBank has to answer as Reference does. */
public final class ReferenceTest {
    private static final int RUNS = 500;
    private static final int CALLS = 512;

    private final Random random;
    private final RowBank bank = new RowBank();
    private final Reference reference = new Reference();
    private final int flavour;
    private String call = "";

    private ReferenceTest(int seed) {
        random = new Random(seed);
        flavour = seed % 6;
    }

    public static void main(String[] args) {
        Checks.failIfEndless();
        int wrong = 0;
        for (int seed = 0; seed < RUNS && wrong < 5; seed++) {
            if (!new ReferenceTest(seed).agrees(seed)) wrong++;
        }
        System.out.println(wrong == 0 ? RUNS + " runs agree with the reference" : wrong + " runs disagree");
        if (wrong != 0) System.exit(1);
    }

    private boolean agrees(int seed) {
        for (int i = 0; i < CALLS; i++) {
            long[] answers = random.nextInt(100) < wayIn() ? steer() : see();
            if (answers[0] != answers[1]) {
                System.out.println("seed " + seed + ", call " + i + ": " + call + " answered " + answers[0]
                    + ", due is " + answers[1]);
                return false;
            }
        }
        return true;
    }

    private int wayIn() {
        return flavour == 5 ? 97 : 60;
    }

    /** Mostly within a range, at its ends too, at times just or far outside it. */
    private int within(int least, int greatest) {
        int r = random.nextInt(60);
        if (r == 0) return least - 1;
        if (r == 1) return greatest + 1;
        if (r == 2) return random.nextBoolean() ? Integer.MIN_VALUE : Integer.MAX_VALUE;
        if (r == 3) return least;
        if (r == 4) return greatest;
        return least + random.nextInt(greatest - least + 1);
    }

    private int address() {
        if (random.nextInt(4) == 0 || flavour == 4) return within(0, 1023);
        int[] few = {0, 1, 5, 16, 17, 32, 48, 64, 65, 80, 256, 257, 272, 320, 700, 1023};
        return few[random.nextInt(flavour == 1 ? 4 : few.length)];
    }

    private long[] told(String call, long got, long due) {
        this.call = call;
        return new long[] {got, due};
    }

    private long[] steer() {
        int a = within(0, 3);
        int b = address();
        int v = within(0, 255);
        int m = within(0, 255);
        int r = random.nextInt(flavour == 5 ? 76 : 100);
        if (r < 22) return told("ask " + a + " " + b, bank.ask(a, b), reference.put(0, a, b, 0, 0));
        if (r < 34) return told("write " + a + " " + b + " " + v, bank.write(a, b, v), reference.put(1, a, b, v, 0));
        if (r < 42) {
            return told("mask " + a + " " + b + " " + v + " " + m, bank.mask(a, b, v, m), reference.put(2, a, b, v, m));
        }
        if (r < 50) return told("swap " + a + " " + b + " " + v, bank.swap(a, b, v), reference.put(3, a, b, v, 0));
        if (r < 56) return told("fence " + a, bank.fence(a), reference.put(4, a, 0, 0, 0));
        if (r < 72) {
            int n = random.nextInt(12) == 0 ? within(1, 500) : flavour == 5 ? 6 + random.nextInt(12) : within(1, 9);
            return told("run " + n, bank.run(n), reference.run(n));
        }
        if (r < 76) {
            int n = within(1, 500);
            return told("drain " + n, bank.drain(n), reference.drain(n));
        }
        return set();
    }

    private long[] set() {
        int r = random.nextInt(10);
        if (r < 3) {
            int rule = within(0, 12);
            int n = within(1, 30);
            return told("time " + rule + " " + n, bank.time(rule, n), reference.time(rule, n));
        }
        if (r < 5) {
            int every = random.nextInt(3) == 0 ? within(0, 19) : random.nextBoolean() ? within(20, 60) : within(20, 400);
            int due = within(1, 8);
            return told("refresh " + every + " " + due, bank.refresh(every, due), reference.refresh(every, due));
        }
        if (r < 8) {
            int order = within(0, 2);
            int limit = random.nextBoolean() ? within(1, 20) : within(1, 4);
            return told("order " + order + " " + limit, bank.order(order, limit), reference.order(order, limit));
        }
        int i = within(0, Math.max(0, reference.logged() - 1));
        int near = reference.logged() == 0 ? 1 : reference.log(Math.max(0, Math.min(i, reference.logged() - 1)), 0);
        int tick = random.nextInt(4) == 0 ? within(1, 1000000) : near + random.nextInt(7) - 3;
        return told("forge " + i + " " + tick, bank.forge(i, tick), reference.forge(i, tick));
    }

    private long[] see() {
        int r = random.nextInt(22);
        int i = within(0, 14);
        switch (r) {
            case 0: case 1: return told("next", bank.next(), reference.next());
            case 2: case 3: case 4: {
                int ask = random.nextBoolean() ? within(0, reference.reqs.size()) : reference.reqs.size() - 1 - random.nextInt(13);
                int what = within(0, 6);
                return told("look " + ask + " " + what, bank.look(ask, what), reference.look(ask, what));
            }
            case 5: case 6: return told("at " + i, bank.at(i), reference.at(i));
            case 7: case 8: {
                int c = within(0, 4);
                int b = within(0, 3);
                return told("soonest " + c + " " + b, bank.soonest(c, b), reference.soonest(c, b));
            }
            case 9: {
                int b = within(0, 3);
                return told("row " + b, bank.row(b), reference.row(b));
            }
            case 10: {
                int a = address();
                return told("octet " + a, bank.octet(a), reference.octet(a));
            }
            case 11: case 12: {
                int c = within(0, reference.logged());
                int what = within(0, 4);
                return told("log " + c + " " + what, bank.log(c, what), reference.log(c, what));
            }
            case 13: return told("check", bank.check(), reference.check());
            case 14: return told("broken", bank.broken(), reference.lastBroken);
            case 15: {
                int a = within(0, 3);
                return told("worst " + a, bank.worst(a), reference.worst(a));
            }
            case 16: return told("beside", bank.beside(), 1);
            case 17: case 18: {
                int what = within(0, 11);
                return told("count " + what, bank.count(what), reference.count(what));
            }
            default: return shelve();
        }
    }

    private long[] shelve() {
        int d = within(0, 7);
        int e = within(0, 7);
        int what = within(0, 4);
        int n = within(0, 16);
        int i = within(0, 16);
        int j = within(0, 16);
        switch (random.nextInt(7)) {
            case 0: {
                int k = random.nextBoolean() ? within(0, 63) : within(0, reference.reqs.size());
                return told("keep " + d + " " + what + " " + k, bank.keep(d, what, k), reference.keep(d, what, k));
            }
            case 1: {
                int size = random.nextBoolean() ? within(0, 60) : n;
                int kind = random.nextInt(8) == 0 ? what : 3 + random.nextInt(2);
                return told("make " + d + " " + kind + " " + size, bank.make(d, kind, size), reference.make(d, kind, size));
            }
            case 2: case 3: return told("element " + d + " " + i, elementOf(d, i), reference.element(d, i));
            case 4: {
                int to = random.nextInt(3) == 0 ? d : e;
                int many = random.nextBoolean() ? n : random.nextInt(4);
                int from = random.nextBoolean() ? i : random.nextInt(4);
                return told("copy " + d + " " + from + " " + to + " " + j + " " + many,
                    bank.copy(d, from, to, j, many), reference.copy(d, from, to, j, many));
            }
            case 5: return told("weight " + d, bank.weight(d), reference.weight(d));
            default: return told("toss " + d, bank.toss(d), reference.toss(d));
        }
    }

    private long elementOf(int d, int i) {
        try {
            return bank.element(d, i);
        } catch (IllegalArgumentException wrong) {
            return Long.MIN_VALUE;
        } catch (IllegalStateException wrong) {
            return Long.MIN_VALUE + 1;
        }
    }
}
