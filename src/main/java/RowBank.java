import java.util.Arrays;

/** A memory of four banks asked by four askers; ../shared/DOC.md says what each call promises. */
public final class RowBank {
    private static final int BANKS = 4;
    private static final int ASKERS = 4;
    private static final int ROWS = 16;
    private static final int PLACES = 16;
    private static final int ADDRESSES = 1024;
    private static final int RULES = 13;
    private static final int SHELVES = 8;
    private static final int MOST_ASKS = 400;
    private static final int MOST_WAITING = 12;
    private static final int MOST_LOGGED = 400;
    private static final int MOST_TICKS = 500;
    private static final int MOST_ELEMENTS = 60;
    private static final int LATEST_FORGED = 1000000;

    private static final int OPEN = 0;
    private static final int SHUT = 1;
    private static final int READ = 2;
    private static final int WRITE = 3;
    private static final int REFRESH = 4;

    private static final int KIND_ASK = 0;
    private static final int KIND_WRITE = 1;
    private static final int KIND_MASKED = 2;
    private static final int KIND_SWAP = 3;
    private static final int KIND_FENCE = 4;

    private static final int BY_OPEN_ROWS = 1;
    private static final int BY_SHARES = 2;

    private static final int HOLD_NOTHING = 0;
    private static final int HOLD_ASK = 1;
    private static final int HOLD_BYTES = 3;
    private static final int HOLD_INTS = 4;

    private static final int WRONG = -1;
    private static final int NONE = -2;
    private static final int FULL = -2;
    private static final int NOTHING_HELD = -11;
    private static final int OTHER_KIND = -12;
    private static final int NO_SUCH_PLACE = -13;
    private static final int SIZE_BELOW_0 = -14;
    private static final int NO_FAILURE = -15;

    private static final int NOT_IN_ORDER = 13;
    /** So far before tick 1 that no TIME reaches from it. */
    private static final int LONG_AGO = -1000;

    private static final int[] FIRST_TIMES = {3, 8, 3, 2, 4, 4, 2, 5, 6, 2, 12, 10, 3};

    private final int[] times = new int[RULES];
    private final Past past = new Past();
    private final CommandLog commandLog = new CommandLog();
    private final Memory memory = new Memory();
    private final Queue queue = new Queue();
    private final Shelf[] shelves = new Shelf[SHELVES];
    private int tick = 1;
    private int every = 0;
    private int due = 4;
    private int owed = 0;
    private int theOrder = 0;
    private int limit = 4;
    private int commands = 0;
    private int refreshes = 0;
    /** For what the latest choice of a COMMAND is: fields, as a tick should make no object. */
    private int chosenBank = NONE;
    private Ask chosenAsk = null;

    public RowBank() {
        System.arraycopy(FIRST_TIMES, 0, times, 0, RULES);
        for (int d = 0; d < SHELVES; d++) {
            shelves[d] = new Shelf();
        }
    }

    // ---- settings

    public int time(int rule, int n) {
        if (!isWithin(rule, 0, RULES - 1) || !isWithin(n, 1, 30)) {
            return WRONG;
        }
        int before = times[rule];
        times[rule] = n;
        return before;
    }

    public int refresh(int every, int due) {
        if (every != 0 && !isWithin(every, 20, 400) || !isWithin(due, 1, 8)) {
            return WRONG;
        }
        this.every = every;
        this.due = due;
        return 0;
    }

    public int order(int order, int limit) {
        if (!isWithin(order, 0, 2) || !isWithin(limit, 1, 20)) {
            return WRONG;
        }
        this.theOrder = order;
        this.limit = limit;
        return 0;
    }

    // ---- asks

    public int ask(int asker, int address) {
        if (!isAsker(asker) || !isAddress(address)) {
            return WRONG;
        }
        return queue.add(new PlainAsk(queue.came, asker, address, tick));
    }

    public int write(int asker, int address, int v) {
        if (!isAsker(asker) || !isAddress(address) || !isOctet(v)) {
            return WRONG;
        }
        return queue.add(new WriteAsk(queue.came, asker, address, tick, v));
    }

    public int mask(int asker, int address, int v, int mask) {
        if (!isAsker(asker) || !isAddress(address) || !isOctet(v) || !isOctet(mask)) {
            return WRONG;
        }
        return queue.add(new MaskedAsk(queue.came, asker, address, tick, v, mask));
    }

    public int swap(int asker, int address, int v) {
        if (!isAsker(asker) || !isAddress(address) || !isOctet(v)) {
            return WRONG;
        }
        return queue.add(new SwapAsk(queue.came, asker, address, tick, v));
    }

    public int fence(int asker) {
        if (!isAsker(asker)) {
            return WRONG;
        }
        return queue.add(new FenceAsk(queue.came, asker, tick));
    }

    // ---- ticks

    public int run(int n) {
        if (!isWithin(n, 1, MOST_TICKS)) {
            return WRONG;
        }
        int done = 0;
        for (int i = 0; i < n; i++) {
            done += passTick();
        }
        return done;
    }

    public int drain(int n) {
        if (!isWithin(n, 1, MOST_TICKS)) {
            return WRONG;
        }
        int ticks = 0;
        while (ticks < n && queue.waiting > 0) {
            passTick();
            ticks++;
        }
        return ticks;
    }

    public int next() {
        return choose(owedThisTick());
    }

    /** Answers how many ASKS were done. */
    private int passTick() {
        owed = owedThisTick();
        int before = queue.waiting;
        queue.finishFences(tick);
        int command = choose(owed);
        if (command != NONE) {
            carryOut(command, chosenBank, chosenAsk);
        }
        tick++;
        return before - queue.waiting;
    }

    private int owedThisTick() {
        return every != 0 && tick % every == 0 ? owed + 1 : owed;
    }

    /** The COMMAND of the open tick, or NONE; changes nothing but chosenBank and chosenAsk. */
    private int choose(int owedNow) {
        chosenBank = NONE;
        chosenAsk = null;
        boolean refreshing = owedNow >= due || owedNow > 0 && queue.waiting == queue.fencesWaiting;
        return refreshing ? chooseForRefresh() : chooseForAsks();
    }

    private int chooseForRefresh() {
        if (canGo(REFRESH, 0)) {
            return REFRESH;
        }
        for (int bank = 0; bank < BANKS; bank++) {
            if (canGo(SHUT, bank)) {
                chosenBank = bank;
                return SHUT;
            }
        }
        return NONE;
    }

    private int chooseForAsks() {
        int banksSeen = 0;
        Ask first = queue.arrange(theOrder, limit, memory);
        for (Ask ask = first; ask != null; ask = ask.behind) {
            if (queue.isHeld(ask, false)) {
                continue;
            }
            boolean firstOfBank = (banksSeen >> ask.bank & 1) == 0;
            banksSeen |= 1 << ask.bank;
            int command = memory.stepToward(ask);
            boolean mayGo = firstOfBank || command == READ || command == WRITE;
            if (mayGo && canGo(command, ask.bank)) {
                chosenBank = ask.bank;
                chosenAsk = ask;
                return command;
            }
        }
        return NONE;
    }

    private boolean canGo(int command, int bank) {
        return memory.allows(command, bank) && past.leastTick(times, command, bank) <= tick;
    }

    private void carryOut(int command, int bank, Ask ask) {
        past.remember(command, bank, tick);
        commands++;
        commandLog.add(command, bank, ask, tick);
        if (command == REFRESH) {
            owed--;
            refreshes++;
        } else if (command == SHUT) {
            memory.shutRow(bank);
        } else if (ask != null) {
            if (command == OPEN) {
                memory.openRow(bank, ask.inRow);
            } else {
                memory.serve(ask);
                queue.finish(ask, tick);
            }
        }
    }

    // ---- what can be seen

    public int look(int ask, int what) {
        Ask seen = queue.find(ask);
        if (seen == null) {
            return WRONG;
        }
        switch (what) {
            case 0: return seen.kind();
            case 1: return seen.asker;
            case 2: return seen.address;
            case 3: return seen.came;
            case 4: return seen.done;
            case 5: return seen.answer;
            case 6: return seen.done == 0 && queue.isHeld(seen, true) ? 1 : 0;
            default: return WRONG;
        }
    }

    public int at(int i) {
        if (i < 0) {
            return WRONG;
        }
        int ahead = 0;
        for (Ask ask = queue.arrange(theOrder, limit, memory); ask != null; ask = ask.behind) {
            if (ahead == i) {
                return ask.number;
            }
            ahead++;
        }
        return NONE;
    }

    public int soonest(int command, int bank) {
        if (!isWithin(command, OPEN, REFRESH) || command != REFRESH && !isBank(bank)) {
            return WRONG;
        }
        if (!memory.allows(command, bank)) {
            return NONE;
        }
        return Math.max(tick, past.leastTick(times, command, bank));
    }

    public int row(int bank) {
        return isBank(bank) ? memory.openRows[bank] : WRONG;
    }

    public int octet(int address) {
        return isAddress(address) ? memory.octets[address] : WRONG;
    }

    public int log(int i, int what) {
        if (!commandLog.has(i)) {
            return WRONG;
        }
        switch (what) {
            case 0: return commandLog.ticks[i];
            case 1: return commandLog.which[i];
            case 2: return commandLog.banks[i];
            case 3: return commandLog.wheres[i];
            case 4: return commandLog.asks[i];
            default: return WRONG;
        }
    }

    public int forge(int i, int tick) {
        if (!commandLog.has(i) || !isWithin(tick, 1, LATEST_FORGED)) {
            return WRONG;
        }
        int before = commandLog.forged[i];
        commandLog.forged[i] = tick;
        return before;
    }

    public int check() {
        return commandLog.findFault(times);
    }

    public int broken() {
        return commandLog.faultyRule;
    }

    public int worst(int asker) {
        return isAsker(asker) ? queue.worstWaits[asker] : WRONG;
    }

    public int beside() {
        return queue.isAsIfInTurn(memory.octets) ? 1 : 0;
    }

    public int count(int what) {
        switch (what) {
            case 0: return tick;
            case 1: return queue.came;
            case 2: return queue.waiting;
            case 3: return owed;
            case 4: return refreshes;
            case 5: return commands;
            case 6: return commandLog.size;
            case 7: return past.opensInAll;
            case 8: case 9: case 10: case 11: return queue.doneOf[what - 8];
            default: return WRONG;
        }
    }

    // ---- shelves

    public int keep(int d, int what, int k) {
        Shelf shelf = findShelf(d);
        if (shelf == null) {
            return WRONG;
        }
        switch (what) {
            case HOLD_NOTHING:
                shelf.hold(null, null, false);
                return 0;
            case HOLD_ASK:
                return keepAsk(shelf, queue.find(k));
            case HOLD_BYTES:
                return keepBytes(shelf, k);
            case HOLD_INTS:
                shelf.hold(null, Arrays.copyOf(times, RULES), false);
                return 0;
            default:
                return WRONG;
        }
    }

    private static int keepAsk(Shelf shelf, Ask ask) {
        if (ask == null) {
            return WRONG;
        }
        shelf.hold(ask, null, false);
        return 0;
    }

    private int keepBytes(Shelf shelf, int k) {
        if (!isWithin(k, 0, BANKS * ROWS - 1)) {
            return WRONG;
        }
        shelf.hold(null, memory.signedRow(k / ROWS, k % ROWS), true);
        return 0;
    }

    public int make(int d, int what, int n) {
        Shelf shelf = findShelf(d);
        if (shelf == null || what != HOLD_BYTES && what != HOLD_INTS || n > MOST_ELEMENTS) {
            return WRONG;
        }
        if (n < 0) {
            return SIZE_BELOW_0;
        }
        shelf.hold(null, new int[n], what == HOLD_BYTES);
        return 0;
    }

    public long element(int d, int i) throws IllegalArgumentException, IllegalStateException {
        Shelf shelf = findShelf(d);
        if (shelf == null) {
            throw new IllegalArgumentException("no such shelf");
        }
        int[] elements = shelf.elements;
        if (elements == null) {
            throw new IllegalStateException("no row is held");
        }
        if (i < 0 || i >= elements.length) {
            throw new IllegalStateException("no such place");
        }
        return elements[i];
    }

    public int copy(int d, int i, int e, int j, int n) {
        Shelf from = findShelf(d);
        Shelf to = findShelf(e);
        if (from == null || to == null) {
            return WRONG;
        }
        if (from.isEmpty() || to.isEmpty()) {
            return NOTHING_HELD;
        }
        int[] source = from.elements;
        int[] target = to.elements;
        if (source == null || target == null || from.ofBytes != to.ofBytes) {
            return OTHER_KIND;
        }
        if (!hasSpan(source, i, n) || !hasSpan(target, j, n)) {
            return NO_SUCH_PLACE;
        }
        System.arraycopy(source, i, target, j, n);
        return n;
    }

    public int weight(int d) {
        Shelf shelf = findShelf(d);
        if (shelf == null) {
            return WRONG;
        }
        Ask held = shelf.ask;
        return held == null ? shelf.refusalWithoutAsk() : held.heft();
    }

    public int toss(int d) {
        Shelf shelf = findShelf(d);
        if (shelf == null) {
            return WRONG;
        }
        Ask held = shelf.ask;
        if (held == null) {
            return shelf.refusalWithoutAsk();
        }
        try {
            held.fail();
        } catch (UnsupportedOperationException failure) {
            return held.number;
        }
        return NO_FAILURE;
    }

    private Shelf findShelf(int d) {
        return d < 0 || d >= SHELVES ? null : shelves[d];
    }

    // ---- ranges

    private static boolean isWithin(int n, int least, int greatest) {
        return n >= least && n <= greatest;
    }

    private static boolean isAsker(int asker) {
        return isWithin(asker, 0, ASKERS - 1);
    }

    private static boolean isBank(int bank) {
        return isWithin(bank, 0, BANKS - 1);
    }

    private static boolean isAddress(int address) {
        return isWithin(address, 0, ADDRESSES - 1);
    }

    private static boolean isOctet(int v) {
        return isWithin(v, 0, 255);
    }

    /** Compares without adding, as from + n could wrap around. */
    private static boolean hasSpan(int[] elements, int from, int n) {
        return n >= 0 && isWithin(from, 0, elements.length) && n <= elements.length - from;
    }

    /** One ASK, of any KIND: what was asked, and what became of it. */
    private abstract static class Ask {
        final int number;
        final int asker;
        final int address;
        final int bank;
        final int inRow;
        final int came;
        /** The tick in which it was done; 0 while it waits. */
        int done = 0;
        int answer = NONE;
        /** The one that waits and came next. */
        Ask later = null;
        /** The one behind it when the queue was last arranged. */
        Ask behind = null;
        int rank = 0;

        Ask(int number, int asker, int address, int tick) {
            this.number = number;
            this.asker = asker;
            this.address = address;
            this.bank = Memory.bankOf(address);
            this.inRow = Memory.rowOf(address);
            this.came = tick;
        }

        abstract int kind();

        int heft() {
            return 5 + asker;
        }

        /** The COMMAND by which it is done. */
        int doneBy() {
            return WRITE;
        }

        int answerFrom(int octet) {
            return NONE;
        }

        int octetAfter(int octet) {
            return octet;
        }

        void fail() {
            throw new UnsupportedOperationException("an ask failed");
        }

        boolean isFence() {
            return kind() == KIND_FENCE;
        }

        /** Whether the two could not change places without a trace. */
        boolean clashesWith(Ask other) {
            return address != NONE && address == other.address
                && (kind() != KIND_ASK || other.kind() != KIND_ASK);
        }
    }

    private static final class PlainAsk extends Ask {
        PlainAsk(int number, int asker, int address, int tick) {
            super(number, asker, address, tick);
        }

        @Override
        int kind() {
            return KIND_ASK;
        }

        @Override
        int doneBy() {
            return READ;
        }

        @Override
        int answerFrom(int octet) {
            return octet;
        }

        /** A plain ASK has no FAILURE. */
        @Override
        void fail() {
        }
    }

    private static class WriteAsk extends Ask {
        final int v;

        WriteAsk(int number, int asker, int address, int tick, int v) {
            super(number, asker, address, tick);
            this.v = v;
        }

        @Override
        int kind() {
            return KIND_WRITE;
        }

        @Override
        int heft() {
            return super.heft() + 20;
        }

        @Override
        int octetAfter(int octet) {
            return v;
        }
    }

    private static final class MaskedAsk extends WriteAsk {
        final int bits;

        MaskedAsk(int number, int asker, int address, int tick, int v, int bits) {
            super(number, asker, address, tick, v);
            this.bits = bits;
        }

        @Override
        int kind() {
            return KIND_MASKED;
        }

        @Override
        int heft() {
            return super.heft() * 2;
        }

        @Override
        int octetAfter(int octet) {
            return octet & ~bits | v & bits;
        }
    }

    private static final class SwapAsk extends WriteAsk {
        SwapAsk(int number, int asker, int address, int tick, int v) {
            super(number, asker, address, tick, v);
        }

        @Override
        int kind() {
            return KIND_SWAP;
        }

        @Override
        int heft() {
            return super.heft() * 2 + 1;
        }

        @Override
        int answerFrom(int octet) {
            return octet;
        }
    }

    private static final class FenceAsk extends Ask {
        FenceAsk(int number, int asker, int tick) {
            super(number, asker, NONE, tick);
        }

        @Override
        int kind() {
            return KIND_FENCE;
        }

        @Override
        int heft() {
            return super.heft() + 300;
        }
    }

    /** All ASKS by number, and the chain of those that wait, as they came. */
    private static final class Queue {
        private final Ask[] all = new Ask[MOST_ASKS];
        private final int[] plainOctets = new int[ADDRESSES];
        final int[] doneOf = new int[ASKERS];
        final int[] worstWaits = {NONE, NONE, NONE, NONE};
        private Ask oldest = null;
        private Ask newest = null;
        int came = 0;
        int waiting = 0;
        int fencesWaiting = 0;
        /**
         * READS and WRITES that went in all, and how many of them before the oldest ASK became that: up
         * to the one that did the oldest before it, as none goes while no ASK waits.
         */
        private int columns = 0;
        private int columnsBefore = 0;

        /** Answers its number, or refuses it. */
        int add(Ask ask) {
            if (waiting >= MOST_WAITING || came >= MOST_ASKS) {
                return FULL;
            }
            if (ask.isFence()) {
                fencesWaiting++;
            }
            Ask last = newest;
            if (last == null) {
                oldest = ask;
            } else {
                last.later = ask;
            }
            newest = ask;
            waiting++;
            all[came] = ask;
            came++;
            return ask.number;
        }

        Ask find(int number) {
            return number < 0 || number >= came ? null : all[number];
        }

        void finishFences(int tick) {
            int askersWaiting = 0;
            Ask ahead = null;
            for (Ask each = oldest; each != null; each = each.later) {
                if (!each.isFence()) {
                    askersWaiting |= 1 << each.asker;
                    ahead = each;
                } else if ((askersWaiting >> each.asker & 1) == 1) {
                    ahead = each;
                } else {
                    each.done = tick;
                    fencesWaiting--;
                    unlink(each, ahead);
                }
            }
        }

        /** An ASK that is no FENCE was done by a READ or WRITE. */
        void finish(Ask ask, int tick) {
            boolean wasOldest = true;
            Ask ahead = null;
            for (Ask each = oldest; each != null && each != ask; each = each.later) {
                wasOldest = wasOldest && each.isFence();
                ahead = each;
            }
            unlink(ask, ahead);
            ask.done = tick;
            columns++;
            if (wasOldest) {
                columnsBefore = columns;
            }
            doneOf[ask.asker]++;
            worstWaits[ask.asker] = Math.max(worstWaits[ask.asker], tick - ask.came);
        }

        private void unlink(Ask ask, Ask ahead) {
            if (ahead == null) {
                oldest = ask.later;
            } else {
                ahead.later = ask.later;
            }
            if (newest == ask) {
                newest = ahead;
            }
            waiting--;
        }

        /**
         * Whether one that waits is HELD. A FENCE that the next tick begins by doing holds back only
         * if idleFencesHold: so a tick can be looked at before it is passed.
         */
        boolean isHeld(Ask ask, boolean idleFencesHold) {
            boolean fencesHold = idleFencesHold;
            for (Ask ahead = oldest; ahead != null && ahead != ask; ahead = ahead.later) {
                if (ahead.clashesWith(ask)) {
                    return true;
                }
                if (ahead.asker == ask.asker) {
                    if (ahead.isFence() && fencesHold) {
                        return true;
                    }
                    fencesHold = fencesHold || !ahead.isFence();
                }
            }
            return false;
        }

        /** Chains those that wait, FENCES aside, by THE ORDER, and answers the first. */
        Ask arrange(int order, int limit, Memory memory) {
            boolean outOfPatience = order == BY_OPEN_ROWS && columns - columnsBefore >= limit;
            Ask first = null;
            for (Ask each = oldest; each != null; each = each.later) {
                if (!each.isFence()) {
                    each.rank = outOfPatience ? 0 : rankOf(each, order, memory);
                    first = insert(first, each);
                }
            }
            return first;
        }

        private int rankOf(Ask ask, int order, Memory memory) {
            switch (order) {
                case BY_OPEN_ROWS: return memory.openRows[ask.bank] == ask.inRow ? 0 : 1;
                case BY_SHARES: return doneOf[ask.asker] * ASKERS + ask.asker;
                default: return 0;
            }
        }

        /** Puts it behind all of no greater rank, and answers the chain's first. */
        private static Ask insert(Ask first, Ask ask) {
            Ask ahead = null;
            for (Ask each = first; each != null && each.rank <= ask.rank; each = each.behind) {
                ahead = each;
            }
            if (ahead == null) {
                ask.behind = first;
                return ask;
            }
            ask.behind = ahead.behind;
            ahead.behind = ask;
            return first;
        }

        /** Does all that were done once more, as they came, on a plain memory. */
        boolean isAsIfInTurn(int[] octets) {
            Arrays.fill(plainOctets, 0);
            for (int i = 0; i < came; i++) {
                Ask ask = all[i];
                if (ask != null && ask.done != 0 && !ask.isFence()) {
                    int before = plainOctets[ask.address];
                    if (ask.answerFrom(before) != ask.answer) {
                        return false;
                    }
                    plainOctets[ask.address] = ask.octetAfter(before);
                }
            }
            for (int i = 0; i < came; i++) {
                Ask ask = all[i];
                if (ask != null && !ask.isFence() && plainOctets[ask.address] != octets[ask.address]) {
                    return false;
                }
            }
            return true;
        }
    }

    /** The bytes, by ADDRESS, and the ROWS that are OPEN. */
    private static final class Memory {
        final int[] octets = new int[ADDRESSES];
        final int[] openRows = {NONE, NONE, NONE, NONE};

        static int rowOf(int address) {
            return address / (BANKS * PLACES);
        }

        static int bankOf(int address) {
            return (address / PLACES ^ rowOf(address)) % BANKS;
        }

        /** Whether a COMMAND suits what is OPEN; of REFRESH the BANK doesn't matter. */
        boolean allows(int command, int bank) {
            if (command == REFRESH) {
                return areAllShut();
            }
            boolean shut = openRows[bank] == NONE;
            return command == OPEN ? shut : !shut;
        }

        private boolean areAllShut() {
            for (int bank = 0; bank < BANKS; bank++) {
                if (openRows[bank] != NONE) {
                    return false;
                }
            }
            return true;
        }

        /** NEXT of an ASK. */
        int stepToward(Ask ask) {
            int open = openRows[ask.bank];
            if (open == NONE) {
                return OPEN;
            }
            return open == ask.inRow ? ask.doneBy() : SHUT;
        }

        void openRow(int bank, int row) {
            openRows[bank] = row;
        }

        void shutRow(int bank) {
            openRows[bank] = NONE;
        }

        /** Does an ASK on its byte, and keeps its answer. */
        void serve(Ask ask) {
            int before = octets[ask.address];
            ask.answer = ask.answerFrom(before);
            octets[ask.address] = ask.octetAfter(before);
        }

        /** A ROW's bytes, each less 128. */
        int[] signedRow(int bank, int row) {
            int[] elements = new int[PLACES];
            int first = (row * BANKS + (bank ^ row % BANKS)) * PLACES;
            for (int place = 0; place < PLACES; place++) {
                elements[place] = octets[first + place] - 128;
            }
            return elements;
        }
    }

    /**
     * The ticks of COMMANDS that went, as far as RULES ask for them. They are recorded in rising
     * ticks, so the latest one of each sort is the one that a RULE counts from.
     */
    private static final class Past {
        private final int[] opens = new int[BANKS];
        /** By BANK, the latest OPEN of another one. */
        private final int[] opensBeside = new int[BANKS];
        private final int[] shuts = new int[BANKS];
        private final int[] reads = new int[BANKS];
        private final int[] writes = new int[BANKS];
        private final int[] columnsOfGroups = new int[BANKS / 2];
        private final int[] fourOpens = new int[4];
        int opensInAll;
        private int anyShut;
        private int anyRead;
        private int anyWrite;
        private int refreshed;

        Past() {
            forget();
        }

        private void forget() {
            Arrays.fill(opens, LONG_AGO);
            Arrays.fill(opensBeside, LONG_AGO);
            Arrays.fill(shuts, LONG_AGO);
            Arrays.fill(reads, LONG_AGO);
            Arrays.fill(writes, LONG_AGO);
            Arrays.fill(columnsOfGroups, LONG_AGO);
            Arrays.fill(fourOpens, LONG_AGO);
            opensInAll = 0;
            anyShut = LONG_AGO;
            anyRead = LONG_AGO;
            anyWrite = LONG_AGO;
            refreshed = LONG_AGO;
        }

        void remember(int command, int bank, int tick) {
            switch (command) {
                case OPEN:
                    rememberOpen(bank, tick);
                    break;
                case SHUT:
                    shuts[bank] = tick;
                    anyShut = tick;
                    break;
                case READ:
                    reads[bank] = tick;
                    anyRead = tick;
                    columnsOfGroups[bank / 2] = tick;
                    break;
                case WRITE:
                    writes[bank] = tick;
                    anyWrite = tick;
                    columnsOfGroups[bank / 2] = tick;
                    break;
                default:
                    refreshed = tick;
            }
        }

        private void rememberOpen(int bank, int tick) {
            opens[bank] = tick;
            for (int other = 0; other < BANKS; other++) {
                if (other != bank) {
                    opensBeside[other] = tick;
                }
            }
            fourOpens[opensInAll % 4] = tick;
            opensInAll++;
        }

        /** The least tick at which all RULES let a COMMAND go. */
        int leastTick(int[] times, int command, int bank) {
            int least = 1;
            for (int rule = 0; rule < times.length; rule++) {
                least = Math.max(least, countedFrom(rule, command, bank) + times[rule]);
            }
            return least;
        }

        /** The least RULE that a COMMAND breaks at a tick, or NONE. */
        int leastBroken(int[] times, int command, int bank, int tick) {
            for (int rule = 0; rule < times.length; rule++) {
                if (tick < countedFrom(rule, command, bank) + times[rule]) {
                    return rule;
                }
            }
            return NONE;
        }

        /** The tick from which a RULE counts for a COMMAND; LONG_AGO, if it says nothing of it. */
        private int countedFrom(int rule, int command, int bank) {
            boolean column = command == READ || command == WRITE;
            switch (rule) {
                case 0: return column ? opens[bank] : LONG_AGO;
                case 1: return command == SHUT ? opens[bank] : LONG_AGO;
                case 2: return command == OPEN ? shuts[bank] : LONG_AGO;
                case 3: return command == SHUT ? reads[bank] : LONG_AGO;
                case 4: return command == SHUT ? writes[bank] : LONG_AGO;
                case 5: return column ? columnsOfGroups[bank / 2] : LONG_AGO;
                case 6: return column ? columnsOfGroups[1 - bank / 2] : LONG_AGO;
                case 7: return command == WRITE ? anyRead : LONG_AGO;
                case 8: return command == READ ? anyWrite : LONG_AGO;
                case 9: return command == OPEN ? opensBeside[bank] : LONG_AGO;
                case 10: return command == OPEN ? fourOpens[opensInAll % 4] : LONG_AGO;
                case 11: return refreshed;
                case 12: return command == REFRESH ? anyShut : LONG_AGO;
                default: return LONG_AGO;
            }
        }
    }

    /** THE LOG, with the ticks that were forged. */
    private static final class CommandLog {
        final int[] ticks = new int[MOST_LOGGED];
        final int[] forged = new int[MOST_LOGGED];
        final int[] which = new int[MOST_LOGGED];
        final int[] banks = new int[MOST_LOGGED];
        final int[] wheres = new int[MOST_LOGGED];
        final int[] asks = new int[MOST_LOGGED];
        private final Past checked = new Past();
        int size = 0;
        int faultyRule = NONE;

        boolean has(int i) {
            return i >= 0 && i < size;
        }

        void add(int command, int bank, Ask ask, int tick) {
            if (size >= MOST_LOGGED) {
                return;
            }
            ticks[size] = tick;
            forged[size] = tick;
            which[size] = command;
            banks[size] = bank;
            wheres[size] = ask == null ? NONE : whereOf(command, ask);
            asks[size] = ask == null ? NONE : ask.number;
            size++;
        }

        private static int whereOf(int command, Ask ask) {
            switch (command) {
                case OPEN: return ask.inRow;
                case READ: case WRITE: return ask.address % PLACES;
                default: return NONE;
            }
        }

        /** The first COMMAND at fault, or NONE. Up to it ticks rise, as Past wants them. */
        int findFault(int[] times) {
            checked.forget();
            for (int i = 0; i < size; i++) {
                int rule = checked.leastBroken(times, which[i], banks[i], forged[i]);
                if (rule == NONE && i > 0 && forged[i] <= forged[i - 1]) {
                    rule = NOT_IN_ORDER;
                }
                if (rule != NONE) {
                    faultyRule = rule;
                    return i;
                }
                checked.remember(which[i], banks[i], forged[i]);
            }
            faultyRule = NONE;
            return NONE;
        }
    }

    /** Holds nothing, an ASK, or a ROW of bytes or ints. */
    private static final class Shelf {
        Ask ask = null;
        int[] elements = null;
        boolean ofBytes = false;

        void hold(Ask ask, int[] elements, boolean ofBytes) {
            this.ask = ask;
            this.elements = elements;
            this.ofBytes = ofBytes;
        }

        boolean isEmpty() {
            return ask == null && elements == null;
        }

        int refusalWithoutAsk() {
            return isEmpty() ? NOTHING_HELD : OTHER_KIND;
        }
    }
}
