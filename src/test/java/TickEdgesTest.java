/** The edges of what the section "Terms" says of THE ORDER, NEXT, A TICK, REFRESHES and THE LOG. */
public final class TickEdgesTest {
    private static final Checks CHECKS = new Checks();

    private static void due(String call, long got, long want) {
        CHECKS.due(call, got, want);
    }

    public static void main(String[] args) {
        first();
        openRows();
        for (int limit = 1; limit <= 20; limit++) limitIsReached(limit);
        limitBeforeAnyWent();
        limitCountsAnew();
        limitCountsWhateverTheOrder();
        limitAndFences();
        shares();
        sharesLeaveFencesAside();
        nextOfAnAsk();
        onlyTheFirstOfABank();
        heldOnesDontCount();
        everyAtItsEnds();
        everyDividesTheOpenTick();
        for (int d = 1; d <= 8; d++) dueIsReached(d);
        moreThanDue();
        oneIsOwedAndNoneWaits();
        fencesBeforeTheCommand();
        leastBankThatCanBeShut();
        neitherCan();
        byAllRules();
        theFirstThatCan();
        emptyTicks();
        firstFourHundredCommands();
        CHECKS.end("TickEdgesTest");
    }

    private static void order(String name, RowBank x, int... asks) {
        for (int i = 0; i < asks.length; i++) due(name + ", place " + i, x.at(i), asks[i]);
        due(name + ", no more", x.at(asks.length), -2);
    }

    // ---- the order

    private static void first() {
        CHECKS.words("THE ORDER of ASKS that wait (FENCES aside): 0 FIRST: as they came.");
        RowBank x = new RowBank();
        order("nothing waits", x);
        x.fence(0);
        order("a fence alone", x);
        x.ask(3, 512);
        x.fence(1);
        x.write(0, 512, 1);
        x.ask(1, 0);
        order("fences aside, held ones not", x, 1, 3, 4);
        x.run(4);
        order("done ones no more", x, 3, 4);
    }

    private static void openRows() {
        CHECKS.words("1 OPEN ROWS: those whose ROW is OPEN, as they came, then the others likewise");
        RowBank x = Scenes.quick();
        x.order(1, 20);
        x.ask(0, 0);
        x.ask(0, 16);
        x.drain(500);
        x.ask(0, 256);
        x.ask(0, 1);
        x.fence(0);
        x.ask(0, 32);
        x.ask(0, 17);
        x.ask(0, 272);
        x.ask(0, 2);
        order("open rows", x, 3, 6, 8, 2, 5, 7);
    }

    /** The oldest waits for its ROW, while ASKS of the OPEN ROW go by: READS and WRITES in turn. */
    private static void limitIsReached(int limit) {
        CHECKS.words("but as FIRST, while so many READS and WRITES (LIMIT, 1 .. 20) or more went since the oldest one"
            + " that waits became that.");
        RowBank x = Scenes.quick();
        x.order(1, limit);
        x.ask(0, 0);
        x.run(2);
        int oldest = x.ask(1, 256);
        for (int went = 0; went < limit; went++) {
            int open = Scenes.put(x, went % 2, 0, 1 + went % 15);
            due("limit " + limit + ", " + went + " went", x.at(0), open);
            due("limit " + limit + ", " + went + " went, then", x.at(1), oldest);
            due("it goes", x.run(1), 1);
        }
        int open = x.ask(0, 1);
        order("limit " + limit + " is reached", x, oldest, open);
        if (limit < 20) {
            x.order(1, limit + 1);
            order("a limit of one more isn't", x, open, oldest);
        }
        x.order(1, 1);
        order("or more", x, oldest, open);
        due("shut for the oldest", x.next(), 1);
    }

    /** The oldest was SHUT for a REFRESH before its READ, so that another ROW is OPEN and none went at all. */
    private static void limitBeforeAnyWent() {
        CHECKS.words("or more went since the oldest one that waits became that.");
        RowBank x = Scenes.quick();
        x.order(1, 1);
        x.time(0, 30);
        x.refresh(20, 1);
        x.ask(0, 0);
        x.run(21);
        x.refresh(0, 1);
        due("refreshed", x.count(4), 1);
        x.time(2, 30);
        x.ask(1, 16);
        x.run(1);
        due("the younger one's row is open", x.row(1), 0);
        due("the oldest one's isn't", x.row(0), -2);
        order("none went", x, 1, 0);
        x.time(0, 1);
        due("READ", x.run(1), 1);
        x.ask(2, 17);
        order("one went", x, 0, 2);
    }

    private static void limitCountsAnew() {
        CHECKS.words("or more went since the oldest one that waits became that.");
        RowBank x = Scenes.quick();
        x.order(1, 2);
        x.ask(0, 0);
        x.run(1);
        x.ask(1, 256);
        x.ask(1, 512);
        for (int i = 1; i <= 3; i++) x.ask(0, i);
        x.run(1);
        order("the oldest was done: none went since", x, 3, 4, 5, 1, 2);
        x.run(2);
        order("two went since", x, 1, 2, 5);
        x.run(3);
        due("the oldest is done", x.look(1, 4), 7);
        order("none went since the next became that", x, 2, 5);
        x.ask(0, 257);
        order("so open rows go first", x, 6, 2, 5);
        x.drain(500);
        x.ask(0, 768);
        int open = x.ask(0, 256 * (x.row(0) / 4) + 3);
        order("nor what went before it came", x, open, 7);
    }

    private static void limitCountsWhateverTheOrder() {
        CHECKS.words("or more went since the oldest one that waits became that.");
        RowBank x = Scenes.quick();
        x.order(2, 1);
        x.ask(0, 0);
        x.run(2);
        x.ask(3, 256);
        x.ask(1, 1);
        x.ask(2, 2);
        due("by shares", x.run(2), 2);
        x.ask(0, 3);
        x.order(1, 3);
        order("two went, of three", x, 4, 1);
        x.order(1, 2);
        order("two went, of two", x, 1, 4);
    }

    /** A FENCE that is older than all ASKS isn't the oldest one of THE ORDER. */
    private static void limitAndFences() {
        CHECKS.words("THE ORDER of ASKS that wait (FENCES aside)");
        RowBank x = Scenes.quick();
        x.order(1, 1);
        x.ask(0, 0);
        x.fence(0);
        x.ask(1, 256);
        x.ask(2, 1);
        x.run(2);
        order("the read of the oldest isn't since", x, 3, 2);
        x.run(1);
        due("the fence is done", x.look(1, 4), 3);
        x.ask(2, 3);
        order("one went since", x, 2, 4);
    }

    private static void shares() {
        CHECKS.words("2 SHARES: by how many ASKS of their ASKER (FENCES aside) were done in all, the fewest first,"
            + " then by ASKERS, then as they came.");
        RowBank x = Scenes.quick();
        x.order(2, 1);
        for (int asker = 3; asker >= 0; asker--) {
            x.ask(asker, 2 * asker);
            x.ask(asker, 2 * asker + 1);
        }
        order("none was done: by askers", x, 6, 7, 4, 5, 2, 3, 0, 1);
        x.run(2);
        order("one of 0's was done", x, 4, 5, 2, 3, 0, 1, 7);
        x.run(1);
        order("one of 1's was done", x, 2, 3, 0, 1, 7, 5);
        x.run(2);
        order("one of each was done", x, 7, 5, 3, 1);
        x.run(1);
        order("two of 0's were done", x, 5, 3, 1);
    }

    private static void sharesLeaveFencesAside() {
        CHECKS.words("by how many ASKS of their ASKER (FENCES aside) were done in all");
        RowBank x = Scenes.quick();
        x.order(2, 1);
        for (int i = 0; i < 3; i++) x.fence(0);
        x.run(1);
        due("none counts", x.count(8), 0);
        x.ask(1, 0);
        x.ask(0, 0);
        order("asker 0 first", x, 4, 3);
        x.drain(500);
        due("one counts", x.count(8), 1);
    }

    // ---- next of an ask

    private static void nextOfAnAsk() {
        CHECKS.words("NEXT of an ASK: its READ or WRITE, if its ROW is OPEN; SHUT, if another ROW of its BANK is; else OPEN.");
        for (int kind = 0; kind < 4; kind++) {
            RowBank x = Scenes.quick();
            Scenes.put(x, kind, 0, 0);
            due("else OPEN", x.next(), 0);
            x.run(1);
            due("its row is open", x.next(), kind == 0 ? 2 : 3);
            x.run(1);
            Scenes.put(x, kind, 0, 15 * 64 + 48);
            due("another row is", x.next(), 1);
            x.run(1);
            due("none is", x.next(), 0);
            x.run(1);
            due("row 15 is", x.row(0), 15);
            due("done", x.run(1), 1);
        }
    }

    private static void onlyTheFirstOfABank() {
        CHECKS.words("SHUT and OPEN are only for the first one by THE ORDER of those of its BANK that aren't HELD"
            + " (whose ROW is OPEN, too).");
        RowBank x = Scenes.quick();
        x.time(0, 30);
        x.ask(0, 0);
        x.ask(0, 256);
        x.ask(0, 1);
        x.run(1);
        due("its READ can't go, and none shuts ahead of it", x.next(), -2);
        x.run(29);
        due("its READ at 31", x.next(), 2);
        x.run(1);
        due("the second is first then", x.next(), 1);
        x.time(1, 30);
        x.time(3, 5);
        due("its SHUT can't go, a READ behind it can", x.next(), 2);
        x.run(1);
        due("the third was done", x.look(2, 4), 32);
        RowBank y = Scenes.quick();
        y.time(9, 30);
        y.ask(0, 16);
        y.drain(500);
        y.ask(0, 0);
        y.ask(0, 256);
        y.ask(0, 272);
        due("no OPEN can go, but a SHUT of another bank", y.next(), 1);
        y.run(1);
        due("for the first of that bank", y.log(2, 4), 3);
        due("OPEN of bank 0 waits", y.soonest(0, 0), 31);
        y.run(1);
        due("OPEN of bank 1 doesn't", y.log(3, 4), 3);
        due("bank 0 waits for that one, too", y.soonest(0, 0), 34);
        y.run(29);
        due("one more was done", y.count(2), 2);
        due("OPEN for the first of bank 0", y.next(), 0);
        y.run(1);
        due("which", y.log(5, 4), 1);
    }

    private static void heldOnesDontCount() {
        CHECKS.words("only for the first one by THE ORDER of those of its BANK that aren't HELD");
        RowBank x = Scenes.quick();
        x.ask(1, 16);
        x.fence(1);
        x.ask(1, 0);
        x.ask(2, 256);
        x.run(1);
        due("open of bank 1", x.log(0, 2), 1);
        x.time(0, 30);
        due("OPEN for the second of bank 0, as the first is held", x.next(), 0);
        x.run(1);
        due("for", x.log(1, 4), 3);
        due("row", x.row(0), 4);
        RowBank y = Scenes.quick();
        y.ask(0, 0);
        y.drain(500);
        y.ask(1, 16);
        y.fence(1);
        y.ask(1, 1);
        y.ask(2, 256);
        y.time(9, 30);
        due("SHUT past one that is held and whose row is open", y.next(), 1);
        y.run(1);
        due("for", y.log(2, 4), 4);
    }

    // ---- a tick: refreshes

    private static void everyAtItsEnds() {
        CHECKS.words("A TICK: first, if EVERY (20 .. 400, or 0: never; 0 at first) isn't 0 and divides its number,"
            + " a REFRESH is OWED more.");
        for (int every : new int[] {20, 21, 399, 400}) {
            RowBank x = new RowBank();
            x.refresh(every, 8);
            x.run(every - 1);
            due("every " + every + ", a tick before", x.count(5), 0);
            due("next", x.next(), 4);
            x.run(1);
            due("every " + every, x.log(0, 0), every);
            x.run(every - 1);
            due("a tick before the second", x.count(4), 1);
            x.run(1);
            due("the second", x.log(1, 0), 2 * every);
        }
        RowBank never = new RowBank();
        for (int i = 0; i < 4; i++) never.run(500);
        due("0 at first", never.count(3) + never.count(5), 0);
        never.refresh(0, 1);
        never.run(500);
        due("0: never", never.count(3) + never.count(5), 0);
    }

    private static void everyDividesTheOpenTick() {
        CHECKS.words("isn't 0 and divides its number");
        RowBank x = new RowBank();
        x.run(39);
        x.refresh(20, 1);
        due("tick 40 is open", x.next(), 4);
        x.run(1);
        due("it was owed there", x.log(0, 0), 40);
        RowBank y = new RowBank();
        y.run(40);
        y.refresh(20, 1);
        due("tick 40 is closed", y.next(), -2);
        y.run(19);
        due("none yet", y.count(4), 0);
        y.run(1);
        due("60", y.log(0, 0), 60);
        RowBank z = new RowBank();
        z.refresh(20, 1);
        z.run(19);
        z.refresh(0, 1);
        z.run(20);
        due("no more in 20", z.count(3) + z.count(4), 0);
    }

    /** One READ in 30 ticks: ASKS wait all the time. */
    private static RowBank slow(int due) {
        RowBank x = Scenes.quick();
        x.time(5, 30);
        x.refresh(20, due);
        for (int i = 0; i < 12; i++) x.ask(0, i);
        return x;
    }

    private static void dueIsReached(int d) {
        CHECKS.words("if as many as DUE (1 .. 8; 4 at first) are OWED, or more");
        RowBank x = slow(d);
        x.run(20 * d - 1);
        due("due " + d + ", one less is owed", x.count(3), d - 1);
        due("due " + d + ", none was done", x.count(4), 0);
        due("row stays", x.row(0), 0);
        due("next", x.next(), 1);
        x.run(1);
        due("owed", x.count(3), d);
        int i = Scenes.last(x);
        due("shut at", x.log(i, 0), 20 * d);
        due("of bank", x.log(i, 2), 0);
        due("for no ask", x.log(i, 4), -2);
        due("then REFRESH", x.next(), 4);
        CHECKS.words("REFRESH, if it can (one less is OWED then)");
        x.run(1);
        due("one less", x.count(3), d - 1);
        due("done", x.count(4), 1);
        due("asks again", x.next(), 0);
    }

    private static void moreThanDue() {
        CHECKS.words("are OWED, or more, or one is and no ASK but FENCES waits");
        RowBank x = slow(8);
        x.run(105);
        due("owed", x.count(3), 5);
        x.refresh(0, 3);
        due("more than due", x.next(), 1);
        x.run(1);
        for (int owed = 4; owed >= 2; owed--) {
            due("REFRESH", x.next(), 4);
            x.run(1);
            due("owed", x.count(3), owed);
        }
        due("fewer than due", x.next(), 0);
        RowBank y = new RowBank();
        y.time(11, 30);
        y.refresh(20, 8);
        for (int i = 0; i < 8; i++) y.run(300);
        due("more are owed than can be done", y.count(3) + y.count(4), 120);
        CHECKS.holds("far more than 8", y.count(3) > 30);
        y.ask(0, 0);
        due("no ask is done", y.run(500), 0);
        y.refresh(0, 1);
        int owed = y.count(3);
        y.drain(500);
        CHECKS.holds("one in 30 ticks, by what is owed", owed - y.count(3) == 16 || owed - y.count(3) == 17);
        due("the ask waits still", y.look(0, 4), 0);
    }

    private static void oneIsOwedAndNoneWaits() {
        CHECKS.words("or one is and no ASK but FENCES waits");
        RowBank x = slow(8);
        x.run(20);
        due("one is owed, asks wait", x.count(3), 1);
        due("no refresh", x.next(), -2);
        x.drain(500);
        due("none waits", x.count(2), 0);
        due("then it shuts", x.next(), 1);
        int owed = x.count(3);
        CHECKS.holds("one at least is owed", owed >= 1);
        x.fence(3);
        due("a fence alone waits", x.next(), 1);
        x.run(1);
        x.refresh(0, 8);
        x.fence(2);
        due("REFRESH, though a fence waits", x.next(), 4);
        x.ask(1, 0);
        due("not, if an ask waits", x.next(), 0);
        x.fence(1);
        due("nor behind its fence", x.next(), 0);
    }

    /** A FENCE that is done at the beginning lets an ASK behind it go, and is done in a tick that refreshes, too. */
    private static void fencesBeforeTheCommand() {
        CHECKS.words("Then FENCES are done. Then one COMMAND at most goes");
        RowBank x = Scenes.quick();
        x.refresh(20, 8);
        x.run(19);
        x.fence(1);
        due("fence", x.run(1), 1);
        due("REFRESH in the same tick", x.log(0, 0), x.look(0, 4));
        x.fence(1);
        x.ask(1, 0);
        due("fence", x.run(1), 1);
        due("OPEN in the same tick", x.log(1, 0), x.look(1, 4));
        due("one at most", x.count(5), 2);
    }

    private static void leastBankThatCanBeShut() {
        CHECKS.words("else SHUT of the least BANK that can be SHUT");
        RowBank x = Scenes.quick();
        for (int bank = 3; bank >= 0; bank--) x.ask(0, 16 * bank);
        x.drain(500);
        x.refresh(20, 1);
        x.run(19 - (x.count(0) - 1));
        for (int bank = 0; bank < 4; bank++) {
            x.run(1);
            due("shut " + bank, x.log(Scenes.last(x), 2), bank);
        }
        RowBank y = Scenes.quick();
        y.ask(0, 48);
        y.ask(0, 16);
        y.drain(500);
        y.run(10);
        y.ask(0, 0);
        y.run(2);
        y.time(1, 20);
        y.refresh(20, 1);
        y.run(20 - y.count(0));
        due("tick 20", y.count(0), 20);
        due("bank 0 can't be shut, nor the others", y.next(), -2);
        y.time(1, 16);
        y.run(1);
        due("the least that can", y.log(Scenes.last(y), 2), 1);
        y.run(1);
        due("the next", y.log(Scenes.last(y), 2), 3);
        due("not bank 0", y.row(0), 0);
        due("none can", y.next(), -2);
    }

    private static void neitherCan() {
        CHECKS.words("if neither can, none.");
        RowBank x = Scenes.quick();
        x.time(1, 30);
        x.ask(0, 0);
        x.run(2);
        x.refresh(20, 1);
        x.run(17);
        x.ask(0, 1);
        due("an ask could go, but a refresh is due", x.next(), -2);
        due("none goes", x.run(11), 0);
        due("two commands", x.count(5), 2);
        due("SHUT at 31", x.next(), 1);
        x.run(2);
        due("REFRESH", x.log(3, 0), 32);
        due("the ask then", x.next(), 0);
    }

    // ---- a tick: asks

    /** Of two RULES now the one and now the other keeps a READ back longer. */
    private static void byAllRules() {
        CHECKS.words("(What can go: by all RULES.)");
        int[][] times = {{2, 30}, {30, 1}, {15, 17}, {15, 16}, {16, 15}};
        for (int[] t : times) {
            RowBank x = Scenes.quick();
            x.write(0, 16, 1);
            x.run(1);
            x.ask(0, 0);
            x.run(2);
            due("WRITE of bank 1 at 2, OPEN of bank 0", x.log(1, 0) * 10 + x.log(2, 0), 23);
            x.time(0, t[0]);
            x.time(8, t[1]);
            int tick = Math.max(3 + t[0], 2 + t[1]);
            due("soonest", x.soonest(2, 0), tick);
            x.run(tick - x.count(0));
            due("none sooner", x.count(5), 3);
            due("it goes", x.run(1), 1);
        }
    }

    private static void theFirstThatCan() {
        CHECKS.words("Else of the ASKS by THE ORDER the first one that isn't HELD and whose NEXT can go: it goes.");
        RowBank x = new RowBank();
        x.ask(0, 0);
        x.ask(1, 0);
        x.ask(2, 32);
        x.run(2);
        due("OPEN for the first", x.log(0, 4), 0);
        due("no second in two ticks", x.count(5), 1);
        x.run(1);
        due("for the third, past the first two", x.log(1, 4), 2);
        due("READ of the first", x.run(1), 1);
        due("which", x.look(0, 4), 4);
        CHECKS.words("one command a tick");
        RowBank y = Scenes.quick();
        for (int i = 0; i < 12; i++) y.ask(0, i);
        for (int i = 1; i <= 13; i++) {
            y.run(1);
            due("commands in " + i + " ticks", y.count(5), i);
        }
        y.run(1);
        due("none then", y.count(5), 13);
    }

    private static void emptyTicks() {
        CHECKS.words("Then the tick is closed.");
        RowBank x = new RowBank();
        for (int i = 1; i <= 5; i++) {
            due("tick", x.count(0), i);
            due("none goes", x.next(), -2);
            due("none is done", x.run(1), 0);
        }
        due("no command", x.count(5), 0);
    }

    private static void firstFourHundredCommands() {
        CHECKS.words("THE LOG has the first 400 COMMANDS.");
        RowBank x = Scenes.quick();
        for (int round = 0; round < 34; round++) {
            for (int i = 0; i < 4; i++) x.ask(0, i % 2 * 256);
            if (round < 33) x.drain(500);
        }
        due("so far", x.count(5), 395);
        x.run(4);
        due("399", x.count(6), 399);
        due("not yet", x.log(399, 0), -1);
        x.run(1);
        due("400", x.count(6), 400);
        due("the last", x.log(399, 0), x.count(0) - 1);
        x.run(1);
        due("401 in all", x.count(5), 401);
        due("400 in the log", x.count(6), 400);
        due("no such", x.log(400, 0), -1);
        due("nothing to forge there", x.forge(400, 1000), -1);
        due("the last stays", x.log(399, 0), x.count(0) - 2);
        due("check", x.check(), -2);
        x.drain(500);
        due("rules count from those beyond it", x.soonest(1, x.log(0, 2)), x.count(0));
        x.time(3, 30);
        due("by the last READ", x.soonest(1, x.log(0, 2)), x.count(0) - 1 + 30);
    }
}
