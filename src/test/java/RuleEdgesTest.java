import java.util.function.Consumer;

/**
 * Each RULE at its very edge: a COMMAND goes exactly so many ticks behind the one that is told and not a
 * tick sooner, soonest() names that tick, and check() takes it and not the one before it.
 */
public final class RuleEdgesTest {
    private static final Checks CHECKS = new Checks();
    private static final int OPEN = 0, SHUT = 1, READ = 2, WRITE = 3, REFRESH = 4;
    private static final Consumer<RowBank> NOTHING = x -> { };

    public static void main(String[] args) {
        openFirst();
        shutBehind();
        columns();
        opens();
        refreshes();
        fourthOpenWrapsAround();
        untoldOnes();
        asToldForCheckAlone();
        CHECKS.end("RuleEdgesTest");
    }

    /**
     * Behind what is asked in before, COMMAND back (0: the last) of THE LOG is the one that a RULE counts
     * from; behind what is asked in then, in which go so many COMMANDS (between), command of bank is next.
     */
    private record Case(int rule, Consumer<RowBank> before, int back, Consumer<RowBank> then, int between, int command,
        int bank) {
        Case(int rule, Consumer<RowBank> before, int back, Consumer<RowBank> then, int command, int bank) {
            this(rule, before, back, then, 0, command, bank);
        }
    }

    private static int[] timesOf(int rule) {
        return new int[] {1, 2, Scenes.FIRST_TIMES[rule], 13, 29, 30};
    }

    private static void at(Case c) {
        for (int n : timesOf(c.rule)) {
            String name = nameOf(c, n);
            RowBank x = gone(name, c, n);
            int from = x.log(Scenes.last(x) - 1 - c.back - c.between, 0);
            CHECKS.due(name + ": check", x.check(), -2);
            if (from + n - 1 > x.log(Scenes.last(x) - 1, 0)) checkedATickSooner(name, x, c.rule, n, from + n - 1);
        }
    }

    private static String nameOf(Case c, int n) {
        return "rule " + c.rule + " at " + n + ", command " + c.command + " of bank " + c.bank;
    }

    /** Lets the COMMAND go, and looks that it goes in its very tick. */
    private static RowBank gone(String name, Case c, int n) {
        RowBank x = Scenes.quick();
        c.before.accept(x);
        int from = x.log(Scenes.last(x) - c.back, 0);
        CHECKS.due(name + ": time", x.time(c.rule, n), 1);
        c.then.accept(x);
        int tick = Math.max(x.count(0), from + n);
        CHECKS.due(name + ": soonest", x.soonest(c.command, c.bank), tick);
        for (int waited = 0; waited < 60 && x.count(0) < tick; waited++) {
            CHECKS.due(name + ": next too soon, at " + x.count(0), x.next(), -2);
            x.run(1);
        }
        CHECKS.due(name + ": next", x.next(), c.command);
        x.run(1);
        CHECKS.due(name + ": which", x.log(Scenes.last(x), 1), c.command);
        CHECKS.due(name + ": bank", x.log(Scenes.last(x), 2), c.command == REFRESH ? -2 : c.bank);
        CHECKS.due(name + ": tick", x.log(Scenes.last(x), 0), tick);
        return x;
    }

    private static void checkedATickSooner(String name, RowBank x, int rule, int n, int tooSoon) {
        int i = Scenes.last(x);
        CHECKS.due(name + ": forge", x.forge(i, tooSoon), x.log(i, 0));
        CHECKS.due(name + ": check a tick too soon", x.check(), i);
        CHECKS.due(name + ": broken", x.broken(), rule);
        x.forge(i, tooSoon + 1);
        CHECKS.due(name + ": check at the tick", x.check(), -2);
        x.forge(i, tooSoon);
        x.time(rule, n - 1);
        CHECKS.due(name + ": by its time now", x.check(), -2);
        CHECKS.due(name + ": none broken", x.broken(), -2);
    }

    /** A READ (KIND 0) or WRITE (KIND 1) of one BANK, then the OPEN of another or of the same ROW. */
    private static Consumer<RowBank> column(int kind, int bank) {
        return x -> {
            Scenes.put(x, kind, 0, 16 * bank);
            x.run(2);
        };
    }

    private static Consumer<RowBank> waits(int kind, int address) {
        return x -> Scenes.put(x, kind, 0, address);
    }

    private static Consumer<RowBank> opened(int kind, int bank) {
        return x -> {
            Scenes.put(x, kind, 0, 16 * bank);
            x.run(1);
        };
    }

    private static void openFirst() {
        CHECKS.words("0 (3) READ, WRITE behind OPEN of their BANK.");
        for (int bank = 0; bank < 4; bank++) {
            at(new Case(0, opened(0, bank), 0, NOTHING, READ, bank));
            at(new Case(0, opened(1, bank), 0, NOTHING, WRITE, bank));
        }
    }

    private static void shutBehind() {
        for (int bank = 0; bank < 4; bank++) {
            Consumer<RowBank> other = waits(0, 256 + 16 * bank);
            CHECKS.words("1 (8) SHUT behind OPEN of its BANK.");
            at(new Case(1, column(0, bank), 1, other, SHUT, bank));
            CHECKS.words("2 (3) OPEN behind SHUT of its BANK.");
            at(new Case(2, column(0, bank).andThen(other).andThen(x -> x.run(1)), 0, NOTHING, OPEN, bank));
            CHECKS.words("3 (2) SHUT behind READ, 4 (4) behind WRITE of its BANK.");
            at(new Case(3, column(0, bank), 0, other, SHUT, bank));
            at(new Case(4, column(1, bank), 0, other, SHUT, bank));
        }
    }

    private static void columns() {
        for (int from = 0; from < 4; from++) {
            for (int bank = 0; bank < 4; bank++) {
                for (int kind = 0; kind < 2; kind++) {
                    for (int then = 0; then < 2; then++) columns(from, bank, kind, then);
                }
            }
        }
    }

    private static void columns(int from, int bank, int kind, int then) {
        boolean same = from == bank;
        Consumer<RowBank> before = same ? column(kind, from) : column(kind, from).andThen(opened(then, bank));
        Consumer<RowBank> behind = same ? waits(then, 16 * bank + 15) : NOTHING;
        int back = same ? 0 : 1;
        CHECKS.words("5 (4) READ, WRITE behind READ, WRITE (either behind either) of their GROUP,"
            + " 6 (2) of the other GROUP.");
        at(new Case(from / 2 == bank / 2 ? 5 : 6, before, back, behind, READ + then, bank));
        if (kind != then) {
            CHECKS.words("7 (5) WRITE behind READ, 8 (6) READ behind WRITE of any BANK.");
            at(new Case(7 + kind, before, back, behind, READ + then, bank));
        }
    }

    private static void opens() {
        CHECKS.words("9 (2) OPEN behind OPEN of another BANK.");
        for (int from = 0; from < 4; from++) {
            for (int bank = 0; bank < 4; bank++) {
                if (from != bank) at(new Case(9, column(0, from), 1, waits(0, 16 * bank), OPEN, bank));
            }
        }
        CHECKS.words("10 (12) OPEN behind the fourth OPEN ahead of it (of any BANKS, itself aside).");
        Consumer<RowBank> threeOfOne = x -> {
            for (int i = 0; i < 3; i++) {
                x.ask(0, 256 * i);
                x.drain(500);
            }
        };
        at(new Case(10, column(0, 1).andThen(column(0, 2)).andThen(column(0, 3)).andThen(column(0, 0)), 7,
            x -> {
                x.ask(0, 256);
                x.run(1);
            }, 1, OPEN, 0));
        at(new Case(10, column(0, 3).andThen(threeOfOne), 9, waits(0, 16), OPEN, 1));
        at(new Case(10, threeOfOne.andThen(column(0, 3)), 9, waits(0, 16), OPEN, 1));
    }

    private static Consumer<RowBank> refreshed(int kind, int bank) {
        return x -> {
            if (kind >= 0) Scenes.put(x, kind, 0, 16 * bank);
            x.refresh(20, 1);
            x.run(20);
        };
    }

    private static void refreshes() {
        for (int bank = 0; bank < 4; bank++) {
            CHECKS.words("11 (10) any one behind REFRESH.");
            Consumer<RowBank> idle = refreshed(-1, bank).andThen(x -> x.refresh(0, 1));
            at(new Case(11, idle, 0, waits(0, 16 * bank), OPEN, bank));
            onlyGoes(new Case(11, idle.andThen(opened(0, bank)), 1, NOTHING, READ, bank));
            onlyGoes(new Case(11, idle.andThen(opened(1, bank)), 1, NOTHING, WRITE, bank));
            onlyGoes(new Case(11, idle.andThen(column(0, bank)), 2, waits(0, 256 + 16 * bank), SHUT, bank));
            CHECKS.words("12 (3) REFRESH behind SHUT of any BANK.");
            at(new Case(12, refreshed(0, bank), 0, NOTHING, REFRESH, bank));
        }
        CHECKS.words("11 (10) any one behind REFRESH.");
        at(new Case(11, refreshed(-1, 0).andThen(x -> x.run(19)), 0, NOTHING, REFRESH, 0));
    }

    /** Where the TIME that was set too late makes check() find an earlier COMMAND at fault. */
    private static void onlyGoes(Case c) {
        for (int n : timesOf(c.rule)) gone(nameOf(c, n), c, n);
    }

    /** Each OPEN from the fifth on counts from the fourth ahead of it, round and round. */
    private static void fourthOpenWrapsAround() {
        CHECKS.words("10 (12) OPEN behind the fourth OPEN ahead of it (of any BANKS, itself aside).");
        RowBank x = Scenes.quick();
        x.time(10, 30);
        int[] opened = new int[13];
        for (int i = 0; i < opened.length; i++) {
            x.ask(0, i % 2 * 256);
            x.drain(500);
            opened[i] = x.log(Scenes.last(x) - 1, 0);
            CHECKS.due("open " + i, x.log(Scenes.last(x) - 1, 1), OPEN);
            CHECKS.due("open " + i, opened[i], i < 4 ? 1 + 3 * i : opened[i - 4] + 30);
        }
        CHECKS.due("check", x.check(), -2);
        int i = Scenes.last(x) - 1;
        x.forge(i, opened[12] - 1);
        CHECKS.due("check of the thirteenth, a tick too soon", x.check(), i);
        CHECKS.due("broken", x.broken(), 10);
    }

    /** What a RULE doesn't tell it leaves free: with its TIME 30, and all others 1, a COMMAND can go at once. */
    private static void untoldOnes() {
        Consumer<RowBank> both = column(0, 0).andThen(column(0, 1));
        Consumer<RowBank> bothWritten = column(1, 0).andThen(column(1, 1));
        CHECKS.words("0 (3) READ, WRITE behind OPEN of their BANK.");
        free(0, column(0, 0).andThen(x -> x.run(30)).andThen(opened(0, 1)), READ, 0);
        free(0, column(0, 0).andThen(x -> x.run(30)).andThen(opened(0, 2)), WRITE, 0);
        free(0, both, SHUT, 0);
        CHECKS.words("1 (8) SHUT behind OPEN of its BANK.");
        free(1, column(0, 0).andThen(x -> x.run(30)).andThen(column(0, 1)), SHUT, 0);
        free(1, both, READ, 0);
        CHECKS.words("2 (3) OPEN behind SHUT of its BANK.");
        free(2, both.andThen(waits(0, 256)).andThen(x -> x.run(1)), OPEN, 2);
        CHECKS.words("3 (2) SHUT behind READ, 4 (4) behind WRITE of its BANK.");
        free(3, bothWritten, SHUT, 0);
        free(3, column(1, 0).andThen(column(0, 1)), SHUT, 0);
        free(4, both, SHUT, 0);
        free(4, column(0, 0).andThen(column(1, 1)), SHUT, 0);
        CHECKS.words("5 (4) READ, WRITE behind READ, WRITE (either behind either) of their GROUP,"
            + " 6 (2) of the other GROUP.");
        free(5, column(0, 0).andThen(opened(0, 2)), READ, 2);
        free(5, column(0, 3).andThen(opened(1, 1)), WRITE, 1);
        free(5, both, SHUT, 1);
        free(6, both, READ, 0);
        free(6, both, WRITE, 1);
        free(6, column(0, 2), SHUT, 2);
        CHECKS.words("7 (5) WRITE behind READ, 8 (6) READ behind WRITE of any BANK.");
        free(7, both, READ, 0);
        free(7, bothWritten, WRITE, 0);
        free(7, bothWritten, READ, 0);
        free(8, bothWritten, WRITE, 1);
        free(8, both, READ, 1);
        free(8, both, WRITE, 1);
        freeOpens();
        freeRefreshes();
    }

    private static void freeOpens() {
        CHECKS.words("9 (2) OPEN behind OPEN of another BANK.");
        free(9, column(0, 0).andThen(waits(0, 256)).andThen(x -> x.run(1)), OPEN, 0);
        CHECKS.words("10 (12) OPEN behind the fourth OPEN ahead of it (of any BANKS, itself aside).");
        free(10, column(0, 0).andThen(column(0, 1)).andThen(column(0, 2)), OPEN, 3);
        free(10, column(0, 0).andThen(x -> x.run(30)).andThen(column(0, 1)).andThen(column(0, 2))
            .andThen(column(0, 3)).andThen(waits(0, 256)).andThen(x -> x.run(1)), OPEN, 0);
    }

    private static void freeRefreshes() {
        CHECKS.words("11 (10) any one behind REFRESH.");
        free(11, column(0, 0), READ, 0);
        CHECKS.words("12 (3) REFRESH behind SHUT of any BANK.");
        Consumer<RowBank> shut = refreshed(0, 0).andThen(x -> x.refresh(0, 8));
        free(12, shut, OPEN, 0);
        free(12, shut, OPEN, 3);
        free(2, shut, REFRESH, 0);
        free(12, column(0, 0), SHUT, 0);
    }

    private static void free(int rule, Consumer<RowBank> before, int command, int bank) {
        RowBank x = Scenes.quick();
        before.accept(x);
        x.time(rule, 30);
        CHECKS.due("rule " + rule + " leaves command " + command + " of bank " + bank + " free",
            x.soonest(command, bank), x.count(0));
    }

    private static void asToldForCheckAlone() {
        CHECKS.words("a COMMAND has to be at least so many ticks behind each one that went before it (by their order,"
            + " whatever tick is told for check() alone) that is told");
        RowBank x = new RowBank();
        x.ask(0, 0);
        x.run(1);
        x.forge(0, 1000000);
        CHECKS.due("soonest by the true tick", x.soonest(READ, 0), 4);
        CHECKS.due("run by the true tick", x.run(3), 1);
        CHECKS.due("check by the told tick", x.check(), 1);
        CHECKS.due("the earlier one by their order", x.broken(), 0);
        x.forge(0, 5);
        x.forge(1, 1);
        CHECKS.due("a told tick ahead of the one before", x.check(), 1);
        CHECKS.due("breaks what counts from there", x.broken(), 0);
        x.forge(1, 8);
        CHECKS.due("the later one behind the told tick", x.check(), -2);
        x.forge(1, 7);
        CHECKS.due("a tick less", x.check(), 1);
        x.forge(0, 1000000);
        x.forge(1, 1000000);
        CHECKS.due("both at the greatest tick", x.check(), 1);
        CHECKS.due("breaks it too", x.broken(), 0);
    }
}
