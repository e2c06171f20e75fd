import java.util.ArrayList;
import java.util.List;
import java.util.Random;

/**
 * What the document's first sentence says of the whole, over runs from fixed seeds. A run is played anew
 * for each thing that is looked at, as an object is for 512 calls.
 */
public final class WholeTest {
    private static final Checks CHECKS = new Checks();
    private static final int RUNS = 120;
    private static final int ASKS = 60;
    private static final int LAST_DRAINS = 4;
    private static final int MOST_SHOWN = 80;

    /** What the test itself asked: {kind, address, v, mask}. */
    private final List<int[]> asked = new ArrayList<>();
    private final int[] times = new int[13];
    private final int order;
    private final int every;
    private final RowBank x = new RowBank();
    private int mostOwed = 0;

    /**
     * Times, an order, refreshes and asks of all kinds as the seed tells; at the end none waits. Where times are
     * great, refreshes are seldom: else they could follow one another, and no ask would ever be done.
     */
    private WholeTest(int seed) {
        Random random = new Random(seed);
        order = seed % 3;
        every = seed % 4 == 0 ? 0 : (seed % 2 == 0 ? 20 : 90) + random.nextInt(30);
        for (int rule = 0; rule <= 12; rule++) {
            times[rule] = 1 + random.nextInt(seed % 2 == 0 ? 4 : 16);
            x.time(rule, times[rule]);
        }
        x.order(order, 1 + random.nextInt(20));
        x.refresh(every, 1 + random.nextInt(8));
        for (int i = 0; i < ASKS; i++) {
            put(random);
            if (x.count(2) == 12) x.drain(40 + random.nextInt(60));
            if (random.nextInt(4) == 0) x.run(1 + random.nextInt(20));
            mostOwed = Math.max(mostOwed, x.count(3));
        }
        for (int i = 0; i < LAST_DRAINS; i++) x.drain(500);
    }

    private void put(Random random) {
        int kind = random.nextInt(5);
        int asker = random.nextInt(4);
        int address = random.nextBoolean() ? random.nextInt(4) * 64 : random.nextInt(1024);
        int v = random.nextInt(256);
        int mask = random.nextInt(256);
        int number;
        switch (kind) {
            case 0: number = x.ask(asker, address); break;
            case 1: number = x.write(asker, address, v); break;
            case 2: number = x.mask(asker, address, v, mask); break;
            case 3: number = x.swap(asker, address, v); break;
            default: number = x.fence(asker);
        }
        if (number >= 0) asked.add(new int[] {kind, address, v, mask});
    }

    public static void main(String[] args) {
        int[] turned = new int[3];
        int waited = 0;
        for (int seed = 0; seed < RUNS; seed++) {
            CHECKS.words("An object is used for at most 512 calls after it has been made");
            CHECKS.due("none waits", new WholeTest(seed).x.count(2), 0);
            new WholeTest(seed).answersAsTheyCame();
            new WholeTest(seed).octetsAsTheyCame();
            WholeTest whole = new WholeTest(seed);
            turned[whole.order] += whole.outOfTurn();
            if (new WholeTest(seed).refreshes() > 1) waited++;
            List<Reference.Cmd> row = new WholeTest(seed).ticksRise();
            new WholeTest(seed).soManyTicksBehind(row);
            new WholeTest(seed).canBeChecked(row);
        }
        CHECKS.words("asks are taken out of turn by told orders");
        for (int order = 0; order <= 2; order++) CHECKS.holds("out of turn by order " + order, turned[order] > 0);
        CHECKS.words("refreshes are owed and may wait");
        CHECKS.holds("some waited", waited > 0);
        CHECKS.end("WholeTest");
    }

    /** What a plain memory answers that does ask k as its turn comes, and keeps its byte. */
    private static int plain(int[] octets, int[] ask) {
        if (ask[0] == 4) return -2;
        int before = octets[ask[1]];
        int mask = ask[0] == 2 ? ask[3] : 255;
        if (ask[0] != 0) octets[ask[1]] = before & (255 - mask) | ask[2] & mask;
        return ask[0] == 0 || ask[0] == 3 ? before : -2;
    }

    private void answersAsTheyCame() {
        CHECKS.words("answers are as if they had been done as they came");
        int[] octets = new int[1024];
        for (int k = 0; k < asked.size(); k++) CHECKS.due("answer of " + k, x.look(k, 5), plain(octets, asked.get(k)));
        CHECKS.due("beside", x.beside(), 1);
    }

    private void octetsAsTheyCame() {
        int[] octets = new int[1024];
        for (int[] ask : asked) plain(octets, ask);
        for (int[] ask : asked) {
            if (ask[0] != 4) CHECKS.due("octet " + ask[1], x.octet(ask[1]), octets[ask[1]]);
        }
    }

    /** How many were done before one that came earlier. */
    private int outOfTurn() {
        int latest = 0;
        int n = 0;
        for (int k = 0; k < asked.size(); k++) {
            int done = x.look(k, 4);
            if (done < latest) n++;
            latest = Math.max(latest, done);
        }
        return n;
    }

    /** How many were owed at once. */
    private int refreshes() {
        CHECKS.words("refreshes are owed and may wait");
        int begun = every == 0 ? 0 : (x.count(0) - 1) / every;
        CHECKS.due("owed and done", x.count(3) + x.count(4), begun);
        CHECKS.words("or one is and no ASK but FENCES waits");
        x.refresh(0, 8);
        x.run(500);
        CHECKS.due("owed when none is asked", x.count(3), 0);
        CHECKS.due("all done", x.count(4), begun);
        return mostOwed;
    }

    private List<Reference.Cmd> ticksRise() {
        CHECKS.words("one command a tick");
        List<Reference.Cmd> row = new ArrayList<>();
        int before = 0;
        int shown = Math.min(x.count(6), MOST_SHOWN);
        for (int i = 0; i < shown; i++) {
            Reference.Cmd c = new Reference.Cmd();
            c.tick = x.log(i, 0);
            c.which = x.log(i, 1);
            c.bank = x.log(i, 2);
            CHECKS.holds("tick " + c.tick + " of command " + i + " is behind " + before, c.tick > before);
            before = c.tick;
            row.add(c);
        }
        return row;
    }

    private void soManyTicksBehind(List<Reference.Cmd> row) {
        CHECKS.words("each so many ticks behind others as told");
        for (int late = 0; late < row.size(); late++) {
            int opens = 0;
            for (int early = late - 1; early >= 0; early--) {
                if (row.get(early).which == 0) opens++;
                int wanted = ticksWanted(row.get(early), row.get(late), opens);
                CHECKS.holds("command " + late + " is " + wanted + " ticks behind " + early,
                    row.get(late).tick - row.get(early).tick >= wanted);
            }
        }
    }

    private int ticksWanted(Reference.Cmd early, Reference.Cmd late, int opens) {
        int wanted = 1;
        for (int rule = 0; rule <= 12; rule++) {
            if (Reference.binds(rule, late.which, late.bank, early, opens)) wanted = Math.max(wanted, times[rule]);
        }
        return wanted;
    }

    /** As it went, and with one command at the tick of the one before it. */
    private void canBeChecked(List<Reference.Cmd> row) {
        CHECKS.words("each row of commands can be checked");
        CHECKS.due("check", x.check(), -2);
        for (int i = 1; i < Math.min(row.size(), 40); i++) {
            CHECKS.due("forge " + i, x.forge(i, row.get(i - 1).tick), row.get(i).tick);
            CHECKS.due("check with " + i + " forged", x.check(), i);
            CHECKS.holds("broken with " + i + " forged", x.broken() >= 0);
            CHECKS.due("forge back " + i, x.forge(i, row.get(i).tick), row.get(i - 1).tick);
        }
        CHECKS.due("check as it went", x.check(), -2);
    }
}
