import java.util.function.IntToLongFunction;

/** Promises 1 to 24: the least and greatest number of each range, those just outside it, what is empty or full. */
public final class CallEdgesTest {
    private static final Checks CHECKS = new Checks();

    private static void due(String call, long got, long want) {
        CHECKS.due(call, got, want);
    }

    /** Both ends are taken; what is just or far outside is refused with -1. */
    private static void range(String name, int least, int greatest, IntToLongFunction call) {
        CHECKS.holds(name + " " + least + " is taken", call.applyAsLong(least) != -1);
        CHECKS.holds(name + " " + greatest + " is taken", call.applyAsLong(greatest) != -1);
        for (int n : new int[] {least - 1, greatest + 1, Integer.MIN_VALUE, Integer.MAX_VALUE}) {
            due(name + " " + n, call.applyAsLong(n), -1);
        }
    }

    public static void main(String[] args) {
        newObject();
        time();
        refresh();
        order();
        askersAndAddresses();
        octets();
        fullForAll();
        allCame();
        run();
        drain();
        next();
        nextChangesNothing();
        look();
        lookAtEachKind();
        at();
        soonest();
        soonestFromNowOn();
        row();
        octet();
        log();
        logOfEachCommand();
        forge();
        check();
        brokenIsTheLeast();
        worst();
        beside();
        count();
        CHECKS.end("CallEdgesTest");
    }

    private static void newObject() {
        CHECKS.words("Tick 1 is open; THE ORDER is FIRST, LIMIT 4; nothing was asked.");
        RowBank x = new RowBank();
        due("tick", x.count(0), 1);
        for (int what = 1; what <= 11; what++) due("count " + what, x.count(what), 0);
        due("at", x.at(0), -2);
        due("look", x.look(0, 0), -1);
        due("next", x.next(), -2);
        due("drain", x.drain(500), 0);
        x.ask(3, 0);
        x.drain(500);
        x.ask(3, 256);
        x.ask(0, 1);
        due("FIRST, not OPEN ROWS, nor SHARES", x.at(0), 1);
        RowBank other = new RowBank();
        due("another object has its own", other.count(1), 0);
        due("and its own rows", other.row(0), -2);
    }

    // ---- 2 to 4

    private static void time() {
        CHECKS.words("The TIME of a RULE is n (1 .. 30): what it was. -1.");
        for (int rule = 0; rule <= 12; rule++) {
            int r = rule;
            range("time of " + rule, 1, 30, n -> new RowBank().time(r, n));
            RowBank x = new RowBank();
            due("at first", x.time(rule, 30), Scenes.FIRST_TIMES[rule]);
            due("was the greatest", x.time(rule, 1), 30);
            due("refused", x.time(rule, 0), -1);
            due("refused", x.time(rule, 31), -1);
            due("was the least", x.time(rule, 1), 1);
            for (int other = 0; other <= 12; other++) {
                if (other != rule) due("another's is its own", x.time(other, 2), Scenes.FIRST_TIMES[other]);
            }
        }
        for (int n : new int[] {1, 30}) range("rule", 0, 12, rule -> new RowBank().time(rule, n));
    }

    private static void refresh() {
        CHECKS.words("EVERY (20 .. 400, or 0: never; 0 at first)");
        range("every", 20, 400, every -> new RowBank().refresh(every, 1));
        due("every 0", new RowBank().refresh(0, 1), 0);
        for (int every = 1; every < 20; every++) due("every " + every, new RowBank().refresh(every, 1), -1);
        due("every -20", new RowBank().refresh(-20, 1), -1);
        CHECKS.words("EVERY and DUE: 0. -1.");
        due("the least of both", new RowBank().refresh(20, 1), 0);
        due("the greatest of both", new RowBank().refresh(400, 8), 0);
        due("neither", new RowBank().refresh(19, 0), -1);
        CHECKS.words("DUE (1 .. 8; 4 at first)");
        for (int every : new int[] {0, 20, 400}) range("due", 1, 8, d -> new RowBank().refresh(every, d));
    }

    private static void order() {
        CHECKS.words("THE ORDER and LIMIT: 0. -1.");
        range("order", 0, 2, order -> new RowBank().order(order, 1));
        CHECKS.words("(LIMIT, 1 .. 20)");
        for (int order = 0; order <= 2; order++) {
            int o = order;
            range("limit of order " + order, 1, 20, limit -> new RowBank().order(o, limit));
            due("answers", new RowBank().order(order, 20), 0);
        }
    }

    // ---- 5 to 9

    private static void askersAndAddresses() {
        CHECKS.words("An ASK of an ASKER (0 .. 3): its number. -1; -2: 12 wait, or there were 400.");
        for (int kind = 0; kind <= 4; kind++) {
            int k = kind;
            range("asker of kind " + kind, 0, 3, asker -> Scenes.put(new RowBank(), k, asker, 5));
            if (kind < 4) range("address of kind " + kind, 0, 1023, a -> Scenes.put(new RowBank(), k, 0, a));
            RowBank x = new RowBank();
            for (int asker = 0; asker <= 3; asker++) {
                due("number", Scenes.put(x, kind, asker, 1023), asker);
                due("asker", x.look(asker, 1), asker);
                due("kind", x.look(asker, 0), kind);
                due("address", x.look(asker, 2), kind == 4 ? -2 : 1023);
            }
        }
    }

    private static void octets() {
        CHECKS.words("A WRITE of v (0 .. 255). -1, -2.");
        range("v", 0, 255, v -> new RowBank().write(0, 0, v));
        CHECKS.words("A MASKED one. -1 (mask not 0 .. 255, too), -2.");
        range("v", 0, 255, v -> new RowBank().mask(0, 0, v, 0));
        range("v", 0, 255, v -> new RowBank().mask(0, 0, v, 255));
        range("mask", 0, 255, mask -> new RowBank().mask(0, 0, 0, mask));
        range("mask", 0, 255, mask -> new RowBank().mask(0, 0, 255, mask));
        CHECKS.words("A SWAP. -1, -2.");
        range("v", 0, 255, v -> new RowBank().swap(0, 0, v));
        CHECKS.words("A FENCE. -1, -2.");
        range("asker", 0, 3, asker -> new RowBank().fence(asker));
        due("when 12 wait", Scenes.full().fence(3), -2);
        due("no asker when 12 wait", Scenes.full().fence(4), -1);
    }

    private static void fullForAll() {
        CHECKS.words("-2: 12 wait, or there were 400.");
        RowBank x = Scenes.full();
        due("wait", x.count(2), 12);
        for (int kind = 0; kind <= 4; kind++) due("12 wait, kind " + kind, Scenes.put(x, kind, 0, 0), -2);
        CHECKS.words("Answers of several refusals are the first one here: -1 no such thing, a number out of range,"
            + " or not as told; -2, -3, -11 to -15 as told.");
        refusedFirst(x);
    }

    private static void allCame() {
        CHECKS.words("-2: 12 wait, or there were 400.");
        RowBank x = Scenes.allCame();
        due("came", x.count(1), 400);
        due("none waits", x.count(2), 0);
        for (int kind = 0; kind <= 4; kind++) due("there were 400, kind " + kind, Scenes.put(x, kind, 0, 0), -2);
        CHECKS.words("Answers of several refusals are the first one here: -1 no such thing, a number out of range,"
            + " or not as told; -2, -3, -11 to -15 as told.");
        refusedFirst(x);
        CHECKS.words("A refused call changes nothing.");
        due("came", x.count(1), 400);
        due("none waits", x.count(2), 0);
        due("nothing by the order", x.at(0), -2);
        due("no tick passes", x.drain(500), 0);
    }

    /** No ASK can come: a number out of range is answered first all the same. */
    private static void refusedFirst(RowBank x) {
        for (int kind = 0; kind <= 4; kind++) {
            due("asker -1, kind " + kind, Scenes.put(x, kind, -1, 0), -1);
            due("asker 4, kind " + kind, Scenes.put(x, kind, 4, 0), -1);
            if (kind < 4) {
                due("address -1, kind " + kind, Scenes.put(x, kind, 0, -1), -1);
                due("address 1024, kind " + kind, Scenes.put(x, kind, 0, 1024), -1);
            }
        }
        for (int v : new int[] {-1, 256}) {
            due("write " + v, x.write(0, 0, v), -1);
            due("mask " + v, x.mask(0, 0, v, 0), -1);
            due("mask under " + v, x.mask(0, 0, 0, v), -1);
            due("swap " + v, x.swap(0, 0, v), -1);
        }
    }

    // ---- 10 to 12

    private static void run() {
        CHECKS.words("n ticks (1 .. 500): how many ASKS were done (FENCES, too). -1.");
        range("run", 1, 500, n -> new RowBank().run(n));
        due("run 0", new RowBank().run(0), -1);
        RowBank x = new RowBank();
        x.run(1);
        due("one tick", x.count(0), 2);
        x.run(500);
        due("500 ticks", x.count(0), 502);
        for (int i = 0; i < 6; i++) x.ask(i % 4, i);
        for (int i = 0; i < 6; i++) x.fence(i % 4);
        due("all 12", x.run(500), 12);
        due("none then", x.run(500), 0);
    }

    private static void drain() {
        CHECKS.words("Ticks till no ASK waits (nor FENCE), but at most n (1 .. 500): how many there were. -1.");
        range("drain", 1, 500, n -> new RowBank().drain(n));
        due("drain 0", new RowBank().drain(0), -1);
        RowBank x = new RowBank();
        due("none waits", x.drain(1), 0);
        due("no tick", x.count(0), 1);
        x.ask(0, 0);
        due("fewer than it takes", x.drain(3), 3);
        due("it waits", x.count(2), 1);
        due("just as many", x.drain(1), 1);
        due("none waits", x.count(2), 0);
        due("tick", x.count(0), 5);
        x.fence(0);
        due("nor FENCE", x.drain(500), 1);
        RowBank y = new RowBank();
        y.refresh(20, 1);
        y.time(11, 30);
        y.run(70);
        y.ask(0, 0);
        due("at most 500", y.drain(500), 500);
        due("tick", y.count(0), 571);
    }

    private static void next() {
        CHECKS.words("The COMMAND that would go in the tick that is open, if nothing was asked any more: which (0 .. 4),"
            + " -2 none.");
        RowBank x = Scenes.quick();
        due("none", x.next(), -2);
        x.fence(0);
        due("a fence needs none", x.next(), -2);
        x.ask(0, 0);
        due("OPEN, past the fence", x.next(), 0);
        x.run(1);
        due("READ", x.next(), 2);
        x.run(1);
        x.write(0, 0, 1);
        due("WRITE", x.next(), 3);
        x.run(1);
        x.ask(0, 256);
        due("SHUT", x.next(), 1);
        x.drain(500);
        x.refresh(20, 8);
        x.run(20 - x.count(0));
        due("SHUT, owed in this tick", x.next(), 1);
        x.run(1);
        due("REFRESH", x.next(), 4);
        x.run(1);
        due("none", x.next(), -2);
    }

    private static void nextChangesNothing() {
        CHECKS.words("The COMMAND that would go in the tick that is open");
        RowBank x = new RowBank();
        x.refresh(20, 1);
        x.run(19);
        x.fence(0);
        for (int i = 0; i < 3; i++) {
            due("REFRESH", x.next(), 4);
            due("none is owed yet", x.count(3), 0);
            due("none was done", x.count(4) + x.count(5) + x.count(6), 0);
            due("the fence waits", x.count(2), 1);
            due("tick", x.count(0), 20);
        }
        due("the fence", x.run(1), 1);
        due("one, once", x.count(4) * 10 + x.count(3), 10);
    }

    // ---- 13 to 17

    private static void look() {
        CHECKS.words("6 whether it is HELD. -1.");
        due("nothing came", new RowBank().look(0, 0), -1);
        RowBank x = new RowBank();
        for (int i = 0; i < 3; i++) x.ask(i, i);
        for (int what = 0; what <= 6; what++) {
            int w = what;
            range("look " + what + " at", 0, 2, ask -> x.look(ask, w));
        }
        for (int ask = 0; ask < 3; ask++) {
            int a = ask;
            range("look at " + ask + " for", 0, 6, what -> x.look(a, what));
        }
        due("nothing of it is right", x.look(-1, 7), -1);
    }

    private static void lookAtEachKind() {
        CHECKS.words("Of an ASK: 0 KIND, 1 ASKER, 2 ADDRESS (-2: a FENCE), 3 the tick in which it came, 4 in which it was done"
            + " (0: it waits), 5 its answer (-2: it has none, or not yet), 6 whether it is HELD.");
        RowBank x = Scenes.quick();
        x.run(500);
        for (int kind = 0; kind <= 4; kind++) Scenes.put(x, kind, 3, 1023);
        int[][] before = {{0, 3, 1023, 501, 0, -2, 0}, {1, 3, 1023, 501, 0, -2, 1}, {2, 3, 1023, 501, 0, -2, 1},
            {3, 3, 1023, 501, 0, -2, 1}, {4, 3, -2, 501, 0, -2, 0}};
        seen("before", x, before);
        x.drain(500);
        int[][] behind = {{0, 3, 1023, 501, 502, 0, 0}, {1, 3, 1023, 501, 503, -2, 0}, {2, 3, 1023, 501, 504, -2, 0},
            {3, 3, 1023, 501, 505, 1, 0}, {4, 3, -2, 501, 506, -2, 0}};
        seen("behind", x, behind);
    }

    private static void seen(String name, RowBank x, int[][] want) {
        for (int ask = 0; ask < want.length; ask++) {
            for (int what = 0; what <= 6; what++) due(name + " " + ask + ", " + what, x.look(ask, what), want[ask][what]);
        }
    }

    private static void at() {
        CHECKS.words("The ASK at place i, from 0, of THE ORDER. -1: i is below 0; -2: there are not so many.");
        RowBank x = new RowBank();
        due("none waits", x.at(0), -2);
        due("below 0, though none waits", x.at(-1), -1);
        due("far below", x.at(Integer.MIN_VALUE), -1);
        due("far beyond", x.at(Integer.MAX_VALUE), -2);
        for (int i = 0; i < 12; i++) x.ask(0, i);
        for (int order = 0; order <= 2; order++) {
            x.order(order, 4);
            due("first", x.at(0), 0);
            due("twelfth", x.at(11), 11);
            due("thirteenth", x.at(12), -2);
            due("below 0", x.at(-1), -1);
            due("far below", x.at(Integer.MIN_VALUE), -1);
            due("far beyond", x.at(Integer.MAX_VALUE), -2);
        }
    }

    private static void soonest() {
        CHECKS.words("OPEN, SHUT, READ, WRITE of a BANK (of REFRESH it doesn't matter). -1;"
            + " -2: it can't, as BANKS are OPEN or shut now.");
        for (int bank = 0; bank <= 3; bank++) {
            int b = bank;
            range("command", 0, 4, command -> new RowBank().soonest(command, b));
        }
        for (int command = 0; command <= 3; command++) {
            int c = command;
            range("bank of command " + command, 0, 3, bank -> new RowBank().soonest(c, bank));
        }
        for (int bank : new int[] {Integer.MIN_VALUE, -2, -1, 4, Integer.MAX_VALUE}) {
            due("REFRESH, bank " + bank, new RowBank().soonest(4, bank), 1);
            due("no command, bank " + bank, new RowBank().soonest(5, bank), -1);
            due("no command, bank " + bank, new RowBank().soonest(-1, bank), -1);
        }
    }

    private static void soonestFromNowOn() {
        CHECKS.words("The least tick, from the one that is open on, at which a COMMAND could go by all RULES,"
            + " if no other went");
        RowBank x = new RowBank();
        x.ask(0, 0);
        x.drain(500);
        due("by a rule", x.soonest(2, 0), 8);
        x.run(2);
        due("a tick sooner", x.soonest(2, 0), 8);
        x.run(1);
        due("in that tick", x.soonest(2, 0), 8);
        x.run(1);
        due("the open one", x.soonest(2, 0), 9);
        x.ask(0, 256);
        due("whatever waits", x.soonest(2, 0), 9);
        x.time(3, 30);
        due("by the greatest of all rules", x.soonest(1, 0), 34);
    }

    private static void row() {
        CHECKS.words("The ROW that is OPEN in a BANK; -2: none is. -1.");
        range("row", 0, 3, bank -> new RowBank().row(bank));
        RowBank x = new RowBank();
        int[] highest = {1008, 992, 976, 960};
        for (int bank = 0; bank < 4; bank++) {
            due("none", x.row(bank), -2);
            x.ask(0, highest[bank]);
            x.drain(500);
            due("greatest", x.row(bank), 15);
        }
    }

    private static void octet() {
        CHECKS.words("The byte at an ADDRESS now. -1.");
        range("octet", 0, 1023, address -> new RowBank().octet(address));
        RowBank x = new RowBank();
        x.write(0, 0, 255);
        x.write(0, 1023, 254);
        due("not yet", x.octet(0) + x.octet(1023), 0);
        x.drain(500);
        due("first", x.octet(0), 255);
        due("last", x.octet(1023), 254);
    }

    // ---- 18 to 21

    private static void log() {
        CHECKS.words("Of COMMAND i of THE LOG");
        for (int what = -1; what <= 5; what++) due("an empty log", new RowBank().log(0, what), -1);
        RowBank x = new RowBank();
        x.ask(0, 0);
        x.ask(0, 16);
        x.drain(500);
        for (int what = 0; what <= 4; what++) {
            int w = what;
            range("log for " + what, 0, 3, i -> x.log(i, w));
        }
        for (int i = 0; i < 4; i++) {
            int command = i;
            range("log of " + i, 0, 4, what -> x.log(command, what));
        }
    }

    private static void logOfEachCommand() {
        CHECKS.words("0 its true tick, 1 which, 2 its BANK, 3 its ROW (OPEN) or PLACE (READ, WRITE), 4 the ASK for which it went"
            + " (2, 3, 4: -2 where there is none such). -1.");
        RowBank x = Scenes.quick();
        x.write(0, 1023, 1);
        x.ask(0, 1022);
        x.ask(0, 0);
        x.drain(500);
        x.refresh(20, 1);
        x.run(20);
        int[][] log = {{1, 0, 0, 15, 0}, {2, 3, 0, 15, 0}, {3, 2, 0, 14, 1}, {4, 1, 0, -2, 2}, {5, 0, 0, 0, 2}, {6, 2, 0, 0, 2},
            {20, 1, 0, -2, -2}, {21, 4, -2, -2, -2}};
        for (int i = 0; i < log.length; i++) {
            for (int what = 0; what <= 4; what++) due("log " + i + ", " + what, x.log(i, what), log[i][what]);
        }
        due("no more", x.log(8, 0), -1);
        x.forge(0, 500);
        due("its true tick", x.log(0, 0), 1);
    }

    private static void forge() {
        CHECKS.words("For check() alone COMMAND i of THE LOG is at a tick (1 .. 1000000): the tick that it had there before. -1.");
        due("an empty log", new RowBank().forge(0, 1), -1);
        RowBank x = new RowBank();
        x.ask(0, 0);
        x.ask(0, 16);
        x.drain(500);
        range("forge of", 0, 3, i -> x.forge(i, 9));
        for (int i = 0; i < 4; i++) {
            int command = i;
            range("forge of " + i + " at", 1, 1000000, tick -> x.forge(command, tick));
        }
        due("was the greatest", x.forge(0, 1), 1000000);
        due("was the least", x.forge(0, 2), 1);
        due("refused", x.forge(0, 0), -1);
        due("refused", x.forge(0, 1000001), -1);
        due("as it was", x.forge(0, 2), 2);
        due("open tick", x.count(0), 9);
        due("soonest", x.soonest(1, 0), 9);
    }

    private static void check() {
        CHECKS.words("THE LOG, with what was forged, from its beginning on: the first COMMAND that isn't behind the one before it"
            + " in ticks, or breaks a RULE (by its TIME now); -2: none.");
        RowBank x = new RowBank();
        due("nothing in the log", x.check(), -2);
        due("broken", x.broken(), -2);
        x.ask(0, 0);
        x.run(1);
        due("one command", x.check(), -2);
        x.forge(0, 1000000);
        due("one command, late", x.check(), -2);
        x.forge(0, 1);
        x.ask(0, 32);
        x.drain(500);
        int[] ticks = {1, 3, 4, 6};
        for (int i = 0; i < 4; i++) due("tick of " + i, x.log(i, 0), ticks[i]);
        due("true ticks", x.check(), -2);
        x.forge(2, 3);
        due("the third is as soon as the second", x.check(), 2);
        x.forge(1, 2);
        due("the first one at fault, not the last", x.check(), 1);
        x.forge(1, 3);
        x.forge(2, 1000000);
        due("the last behind none", x.check(), 3);
        x.forge(3, 1000000);
        due("equal isn't behind", x.check(), 3);
        x.forge(2, 999998);
        due("behind at the greatest tick", x.check(), -2);
        due("check answers alike again", x.check(), -2);
    }

    private static void brokenIsTheLeast() {
        CHECKS.words("Of the latest check(): the least RULE that was broken there; 13, if it isn't behind the one before,"
            + " and broke none; -2: none, or there was no check().");
        RowBank x = new RowBank();
        due("no check yet", x.broken(), -2);
        x.ask(0, 0);
        x.ask(0, 32);
        x.drain(500);
        due("no check still", x.broken(), -2);
        x.forge(1, 1);
        due("no check behind forge", x.broken(), -2);
        due("rule 9, and not behind", x.check(), 1);
        due("a rule goes before 13", x.broken(), 9);
        x.forge(1, 4);
        due("of the latest check", x.broken(), 9);
        due("not behind alone", x.check(), 2);
        due("13", x.broken(), 13);
        x.forge(1, 1000);
        due("far ahead of the one before", x.check(), 2);
        due("13 again", x.broken(), 13);
        x.forge(1, 4);
        x.forge(2, 5);
        due("the last is too near its OPEN", x.check(), 3);
        due("rules 0 and 6: the least", x.broken(), 0);
        x.forge(1, 3);
        due("rule 6 alone", x.check(), 3);
        due("6", x.broken(), 6);
        x.time(6, 1);
        due("the latest check, not now", x.broken(), 6);
        due("none", x.check(), -2);
        due("-2", x.broken(), -2);
    }

    // ---- 22 to 24

    private static void worst() {
        CHECKS.words("The greatest number of ticks from one in which an ASK of an ASKER (FENCES aside) came to that in which it"
            + " was done; -2: none was done yet. -1.");
        range("worst", 0, 3, asker -> new RowBank().worst(asker));
        RowBank x = Scenes.quick();
        for (int asker = 0; asker <= 3; asker++) due("none was done", x.worst(asker), -2);
        x.ask(0, 0);
        x.fence(1);
        x.run(1);
        for (int asker = 0; asker <= 3; asker++) due("but a fence", x.worst(asker), -2);
        x.run(1);
        due("one tick", x.worst(0), 1);
        x.ask(3, 1);
        x.run(1);
        due("in the tick in which it came", x.worst(3), 0);
        x.ask(3, 256);
        x.drain(500);
        due("greater", x.worst(3), 2);
        x.ask(3, 257);
        x.drain(500);
        due("not less", x.worst(3), 2);
        x.ask(0, 258);
        x.fence(0);
        x.time(5, 30);
        x.drain(500);
        due("fences aside", x.worst(0) == x.look(5, 4) - x.look(5, 3) ? 1 : 0, 1);
        due("others", x.worst(1) + x.worst(2), -4);
    }

    private static void beside() {
        CHECKS.words("1, if all answers, and all bytes at ADDRESSES of ASKS, are the same, else 0.");
        RowBank x = new RowBank();
        due("nothing was asked", x.beside(), 1);
        x.order(2, 1);
        for (int i = 0; i < 12; i++) Scenes.put(x, (i + 3) % 5, 3 - i % 4, i % 2 * 1023);
        due("all wait", x.beside(), 1);
        for (int i = 0; i < 150 && x.count(2) > 0; i++) {
            x.run(1);
            due("some wait", x.beside(), 1);
        }
        due("none waits", x.count(2), 0);
        CHECKS.words("A plain memory that does all ASKS as they came, but those that wait");
        RowBank z = Scenes.quick();
        z.write(0, 0, 9);
        z.write(1, 16, 9);
        z.run(2);
        due("the first was done, the second waits", z.count(2), 1);
        due("which leaves its byte", z.octet(0) * 10 + z.octet(16), 90);
        due("as beside it", z.beside(), 1);
        RowBank y = Scenes.allCame();
        due("400 came", y.beside(), 1);
    }

    private static void count() {
        CHECKS.words("0 the tick that is open, 1 ASKS that came, 2 that wait, 3 REFRESHES that are OWED, 4 REFRESHES that were"
            + " done, 5 COMMANDS in all, 6 COMMANDS in THE LOG, 7 OPENS in all; 8 .. 11 ASKS of ASKER 0 .. 3 (FENCES aside)"
            + " that were done; -1 for others.");
        range("count", 0, 11, what -> new RowBank().count(what));
        RowBank x = Scenes.quick();
        x.refresh(20, 8);
        for (int asker = 0; asker <= 3; asker++) {
            for (int i = 0; i <= asker; i++) x.ask(asker, 4 * asker + i);
        }
        x.fence(0);
        x.fence(3);
        int[] before = {1, 12, 12, 0, 0, 0, 0, 0, 0, 0, 0, 0};
        for (int what = 0; what <= 11; what++) due("before, count " + what, x.count(what), before[what]);
        x.run(11);
        int[] behind = {12, 12, 1, 0, 0, 11, 11, 1, 1, 2, 3, 4};
        for (int what = 0; what <= 11; what++) due("behind, count " + what, x.count(what), behind[what]);
        x.run(10);
        int[] refreshed = {22, 12, 0, 0, 1, 13, 13, 1, 1, 2, 3, 4};
        for (int what = 0; what <= 11; what++) due("refreshed, count " + what, x.count(what), refreshed[what]);
    }
}
