/** The edges of what the section "Terms" says of BANKS, ADDRESSES, COMMANDS, ASKS, FENCES and HELD. */
public final class TermEdgesTest {
    private static final Checks CHECKS = new Checks();

    private static void due(String call, long got, long want) {
        CHECKS.due(call, got, want);
    }

    public static void main(String[] args) {
        firstTick();
        groups();
        allBytesAtFirst();
        bytesAtTheirEnds();
        oneRowOrNone();
        allAddresses();
        commandsByWhatIsOpen();
        refreshWhenAllAreShut();
        twelveWait();
        fencesWaitToo();
        roomForEachThatIsDone();
        fourHundred();
        fencesAmongFourHundred();
        writesAtTheirEnds();
        masks();
        swapsAndAsks();
        fenceOfAnIdleAsker();
        fenceBehindAnAsk();
        fenceOfAnother();
        fencesInARow();
        heldBySameAddress();
        heldByFences();
        heldOnlyWhileItWaits();
        CHECKS.end("TermEdgesTest");
    }

    // ---- ticks, banks, addresses

    private static void firstTick() {
        CHECKS.words("TICKS are numbered; the one that is open is 1 at first.");
        RowBank x = new RowBank();
        due("open at first", x.count(0), 1);
        x.ask(0, 0);
        due("came in", x.look(0, 3), 1);
        x.run(1);
        due("first command", x.log(0, 0), 1);
        due("open then", x.count(0), 2);
        RowBank y = new RowBank();
        for (int i = 0; i < 500; i++) y.run(500);
        due("after 250000", y.count(0), 250001);
        y.ask(0, 0);
        due("came in", y.look(0, 3), 250001);
        due("drain", y.drain(500), 4);
        due("done in", y.look(0, 4), 250004);
    }

    private static void groups() {
        CHECKS.words("BANKS 0 .. 3 are in GROUPS 0 (0, 1) and 1 (2, 3)");
        int[][] gaps = {{20, 20, 10, 10}, {20, 20, 10, 10}, {10, 10, 20, 20}, {10, 10, 20, 20}};
        for (int p = 0; p < 4; p++) {
            for (int q = 0; q < 4; q++) {
                RowBank x = Scenes.quick();
                x.ask(0, 16 * q);
                x.drain(500);
                x.run(40);
                x.ask(0, 16 * p + 1);
                x.drain(500);
                x.time(5, 20);
                x.time(6, 10);
                due("bank " + q + " behind " + p, x.soonest(2, q) - x.log(Scenes.last(x), 0), gaps[p][q]);
            }
        }
    }

    private static void allBytesAtFirst() {
        CHECKS.words("bytes 0 .. 255 (0 at first)");
        for (int half = 0; half < 1024; half += 512) {
            RowBank x = new RowBank();
            for (int a = half; a < half + 512; a++) due("octet " + a, x.octet(a), 0);
        }
        for (int k = 0; k < 64; k++) {
            RowBank x = new RowBank();
            x.keep(0, 3, k);
            for (int i = 0; i < 16; i++) due("row " + k + ", place " + i, Checks.elementOf(x, 0, i), -128);
        }
    }

    private static void bytesAtTheirEnds() {
        CHECKS.words("each has ROWS 0 .. 15 of PLACES 0 .. 15, bytes 0 .. 255");
        for (int bank = 0; bank < 4; bank++) {
            for (int row = 0; row < 16; row += 15) {
                for (int place = 0; place < 16; place += 15) bytesOf(bank, row, place);
            }
        }
    }

    private static void bytesOf(int bank, int row, int place) {
        int address = 64 * row + 16 * (row == 15 ? 3 - bank : bank) + place;
        String name = "bank " + bank + ", row " + row + ", place " + place;
        RowBank x = new RowBank();
        x.write(0, address, 255);
        x.drain(500);
        due(name + ": row", x.row(bank), row);
        due(name + ": octet", x.octet(address), 255);
        x.keep(0, 3, 16 * bank + row);
        for (int i = 0; i < 16; i++) due(name + ": element " + i, Checks.elementOf(x, 0, i), i == place ? 127 : -128);
        x.write(0, address, 0);
        x.drain(500);
        due(name + ": octet again", x.octet(address), 0);
    }

    private static void oneRowOrNone() {
        CHECKS.words("and one ROW OPEN or none (at first).");
        RowBank x = new RowBank();
        for (int bank = 0; bank < 4; bank++) due("row at first " + bank, x.row(bank), -2);
        for (int bank = 0; bank < 4; bank++) x.ask(0, 16 * bank);
        x.drain(500);
        for (int bank = 0; bank < 4; bank++) due("row 0 of " + bank, x.row(bank), 0);
        x.ask(0, 15 * 64);
        x.drain(500);
        int[] then = {0, 0, 0, 15};
        for (int bank = 0; bank < 4; bank++) due("row then of " + bank, x.row(bank), then[bank]);
        due("it was shut between", x.log(Scenes.last(x) - 2, 1), 1);
    }

    private static void allAddresses() {
        CHECKS.words("An ADDRESS a, 0 .. 1023, is PLACE a modulo 16, ROW a / 64 (cut), BANK (a / 16, cut, modulo 4)"
            + " with each bit turned that is 1 in ROW modulo 4.");
        int[] turned = {0, 1, 2, 3, 1, 0, 3, 2, 2, 3, 0, 1, 3, 2, 1, 0};
        for (int a = 0; a < 1024; a++) {
            RowBank x = new RowBank();
            x.write(0, a, 200);
            x.drain(500);
            int bank = turned[a / 16 % 16];
            due("bank of " + a, x.log(0, 2), bank);
            due("row of " + a, x.log(0, 3), a / 64);
            due("open row of " + a, x.row(bank), a / 64);
            due("written bank of " + a, x.log(1, 2), bank);
            due("place of " + a, x.log(1, 3), a % 16);
            due("octet of " + a, x.octet(a), 200);
            x.keep(7, 3, 16 * bank + a / 64);
            due("element of " + a, Checks.elementOf(x, 7, a % 16), 72);
        }
        RowBank x = new RowBank();
        for (int a : new int[] {-1, 1024, -16, -64, -1024, Integer.MIN_VALUE, Integer.MAX_VALUE}) {
            due("ask of " + a, x.ask(0, a), -1);
            due("octet of " + a, x.octet(a), -1);
        }
    }

    // ---- commands

    private static void commandsByWhatIsOpen() {
        CHECKS.words("0 OPEN a ROW of a BANK that has none OPEN; 1 SHUT a BANK that has one;"
            + " 2 READ, 3 WRITE a PLACE of the OPEN ROW of a BANK");
        for (int bank = 0; bank < 4; bank++) {
            RowBank x = Scenes.quick();
            suits(x, -1);
            x.ask(0, 16 * bank);
            x.drain(500);
            suits(x, bank);
            x.ask(0, 256 + 16 * bank);
            x.run(1);
            suits(x, -1);
        }
    }

    private static void suits(RowBank x, int open) {
        for (int bank = 0; bank < 4; bank++) {
            CHECKS.due("open of " + bank, x.soonest(0, bank), bank == open ? -2 : x.count(0));
            for (int c = 1; c < 4; c++) {
                CHECKS.due("command " + c + " of " + bank, x.soonest(c, bank), bank == open ? x.count(0) : -2);
            }
        }
    }

    private static void refreshWhenAllAreShut() {
        CHECKS.words("4 REFRESH, when all BANKS are shut.");
        RowBank x = new RowBank();
        for (int bank = 0; bank < 4; bank++) due("all shut at first", x.soonest(4, bank), 1);
        for (int open = 0; open < 4; open++) {
            RowBank y = Scenes.quick();
            y.ask(0, 16 * open);
            y.drain(500);
            for (int bank = 0; bank < 4; bank++) due("bank " + open + " is open", y.soonest(4, bank), -2);
            y.ask(0, 256 + 16 * open);
            y.run(1);
            due("all shut again", y.soonest(4, 0), y.count(0));
        }
    }

    // ---- asks

    private static void twelveWait() {
        CHECKS.words("at most 12 wait (FENCES, too)");
        for (int kind = 0; kind < 5; kind++) {
            RowBank x = new RowBank();
            for (int i = 0; i < 11; i++) x.ask(0, i);
            due("the twelfth, kind " + kind, Scenes.put(x, kind, 3, 1023), 11);
            for (int then = 0; then < 5; then++) due("the thirteenth, kind " + then, Scenes.put(x, then, 3, 1023), -2);
            due("wait", x.count(2), 12);
            due("came", x.count(1), 12);
            due("none of that number", x.look(12, 0), -1);
            due("the last by the order", x.at(kind == 4 ? 10 : 11), kind == 4 ? 10 : 11);
            due("no more", x.at(kind == 4 ? 11 : 12), -2);
        }
    }

    private static void fencesWaitToo() {
        CHECKS.words("at most 12 wait (FENCES, too)");
        RowBank x = new RowBank();
        for (int i = 0; i < 12; i++) due("fence " + i, x.fence(i % 4), i);
        for (int kind = 0; kind < 5; kind++) due("thirteenth, kind " + kind, Scenes.put(x, kind, 0, 0), -2);
        due("all at once", x.run(1), 12);
        due("none waits", x.count(2), 0);
        due("room again", x.fence(0), 12);
    }

    private static void roomForEachThatIsDone() {
        CHECKS.words("ASKS are numbered as they come, 0 .. 399; at most 12 wait (FENCES, too).");
        RowBank x = Scenes.full();
        due("full", x.ask(0, 0), -2);
        int done = x.run(20);
        CHECKS.holds("some were done", done > 0 && done < 12);
        for (int i = 0; i < done; i++) due("room for " + i, x.ask(0, 900 + i), 12 + i);
        due("full again", x.ask(0, 0), -2);
        due("wait", x.count(2), 12);
    }

    private static void fourHundred() {
        CHECKS.words("ASKS are numbered as they come, 0 .. 399");
        for (int kind = 0; kind < 5; kind++) {
            RowBank x = Scenes.quick();
            for (int i = 0; i < 399; i++) {
                due("number", x.ask(i % 4, i % 16), i);
                if (i % 12 == 11) x.drain(500);
            }
            x.drain(500);
            due("the last, kind " + kind, Scenes.put(x, kind, 3, 5), 399);
            for (int then = 0; then < 5; then++) due("one more, kind " + then, Scenes.put(x, then, 0, 0), -2);
            x.drain(500);
            for (int then = 0; then < 5; then++) due("and none waits, kind " + then, Scenes.put(x, then, 0, 0), -2);
            due("came", x.count(1), 400);
            due("the last's kind", x.look(399, 0), kind);
            due("no such", x.look(400, 0), -1);
            due("keep the last", x.keep(0, 1, 399), 0);
            due("keep no such", x.keep(0, 1, 400), -1);
        }
    }

    private static void fencesAmongFourHundred() {
        CHECKS.words("ASKS are numbered as they come, 0 .. 399; at most 12 wait (FENCES, too).");
        RowBank x = new RowBank();
        for (int i = 0; i < 400; i++) {
            due("fence", x.fence(i % 4), i);
            if (i % 12 == 11) x.run(1);
        }
        for (int kind = 0; kind < 5; kind++) due("one more, kind " + kind, Scenes.put(x, kind, 0, 0), -2);
        due("drain", x.drain(500), 1);
        for (int kind = 0; kind < 5; kind++) due("still, kind " + kind, Scenes.put(x, kind, 0, 0), -2);
    }

    // ---- kinds

    private static void writesAtTheirEnds() {
        CHECKS.words("1 WRITE (it becomes v)");
        for (int v : new int[] {0, 1, 127, 128, 254, 255}) {
            RowBank x = new RowBank();
            x.write(0, 9, 255 - v);
            x.write(0, 9, v);
            x.drain(500);
            due("octet", x.octet(9), v);
            due("beside it", x.octet(8) + x.octet(10), 0);
            due("no answer", x.look(1, 5), -2);
        }
    }

    private static void masks() {
        CHECKS.words("2 MASKED (under WRITE: only bits of a mask do)");
        int[][] known = {{0, 255, 0, 0}, {0, 255, 255, 255}, {255, 0, 0, 255}, {255, 0, 255, 0}, {0xA5, 0x5A, 0xF0, 0x55},
            {0xA5, 0x5A, 0x0F, 0xAA}, {0, 255, 128, 128}, {255, 0, 128, 127}, {0, 255, 1, 1}, {255, 0, 1, 254}};
        for (int[] k : known) {
            RowBank x = new RowBank();
            x.write(0, 1023, k[0]);
            x.mask(3, 1023, k[1], k[2]);
            x.drain(500);
            due("mask " + k[2] + " of " + k[1] + " over " + k[0], x.octet(1023), k[3]);
            due("no answer", x.look(1, 5), -2);
        }
    }

    private static void swapsAndAsks() {
        CHECKS.words("3 SWAP (under WRITE: its answer is the byte ahead of that); 4 FENCE.");
        RowBank x = new RowBank();
        int[] vs = {255, 0, 255, 128};
        for (int v : vs) x.swap(0, 0, v);
        x.ask(1, 0);
        for (int i = 0; i < 5; i++) due("not yet " + i, x.look(i, 5), -2);
        x.drain(500);
        int[] answers = {0, 255, 0, 255, 128};
        for (int i = 0; i < 4; i++) due("answer " + i, x.look(i, 5), answers[i]);
        CHECKS.words("KINDS: 0 ASK (its answer: the byte at its ADDRESS)");
        due("answer of the ask", x.look(4, 5), answers[4]);
        CHECKS.words("An ASK is done by a READ, a WRITE by a WRITE of its PLACE.");
        for (int kind = 0; kind < 4; kind++) {
            RowBank y = new RowBank();
            Scenes.put(y, kind, 2, 15);
            y.drain(500);
            due("kind " + kind + " is done by", y.log(1, 1), kind == 0 ? 2 : 3);
            due("kind " + kind + " at", y.log(1, 3), 15);
            due("kind " + kind + " for", y.log(1, 4), 0);
            due("kind " + kind + " in", y.look(0, 4), y.log(1, 0));
        }
    }

    // ---- fences

    private static final String FENCES = "A FENCE is done, at the beginning of a tick (in the order in which they came),"
        + " as soon as no ASK of its ASKER that came before it waits.";

    private static void fenceOfAnIdleAsker() {
        CHECKS.words(FENCES);
        RowBank x = new RowBank();
        x.fence(0);
        due("waits till the tick", x.look(0, 4), 0);
        due("waits", x.count(2), 1);
        due("done in the tick in which it came", x.run(1), 1);
        due("in", x.look(0, 4), 1);
        due("by no command", x.count(5), 0);
        RowBank y = Scenes.quick();
        y.fence(0);
        y.ask(0, 0);
        y.run(1);
        due("an ask behind it doesn't keep it", y.look(0, 4), 1);
        due("which goes in the same tick", y.log(0, 0), 1);
    }

    private static void fenceBehindAnAsk() {
        CHECKS.words(FENCES);
        RowBank x = Scenes.quick();
        x.ask(0, 0);
        x.fence(0);
        x.ask(0, 1);
        due("open", x.run(1), 0);
        due("read", x.run(1), 1);
        due("not in the tick of the ask", x.look(1, 4), 0);
        due("fence and read in the next", x.run(1), 2);
        due("fence", x.look(1, 4), 3);
        due("read behind it", x.look(2, 4), 3);
    }

    private static void fenceOfAnother() {
        CHECKS.words(FENCES);
        for (int other = 1; other < 4; other++) {
            RowBank x = new RowBank();
            x.ask(0, 0);
            x.fence(other);
            x.fence(0);
            due("the other's alone", x.run(1), 1);
            due("other's", x.look(1, 4), 1);
            due("its own waits", x.look(2, 4), 0);
        }
    }

    private static void fencesInARow() {
        CHECKS.words(FENCES);
        RowBank x = new RowBank();
        x.ask(2, 0);
        for (int i = 0; i < 11; i++) x.fence(2);
        due("none before the ask", x.run(4), 1);
        due("all at once", x.run(1), 11);
        for (int i = 1; i < 12; i++) due("fence " + i, x.look(i, 4), 5);
        due("fences aren't told as asks of theirs", x.count(10), 1);
    }

    // ---- held

    private static final String HELD = "HELD is an ASK (a FENCE, too) that waits and came behind a FENCE of its ASKER"
        + " that waits, or behind one that waits, of the same ADDRESS (of any ASKER), and one of the two is no plain ASK.";

    private static void heldBySameAddress() {
        CHECKS.words(HELD);
        for (int kind = 0; kind < 4; kind++) {
            for (int then = 0; then < 4; then++) {
                for (int asker = 0; asker < 4; asker += 3) {
                    String name = "kind " + then + " behind " + kind;
                    RowBank x = new RowBank();
                    Scenes.put(x, kind, 0, 1023);
                    Scenes.put(x, then, asker, 1023);
                    Scenes.put(x, then, asker, 1022);
                    due(name + ", the first", x.look(0, 6), 0);
                    due(name, x.look(1, 6), kind == 0 && then == 0 ? 0 : 1);
                    due(name + " of another address", x.look(2, 6), 0);
                    Scenes.put(x, 4, asker, 0);
                    due("a fence behind asks of its asker", x.look(3, 6), 0);
                }
            }
        }
    }

    private static void heldByFences() {
        CHECKS.words(HELD);
        for (int asker = 0; asker < 4; asker++) {
            RowBank x = new RowBank();
            x.ask(asker, 0);
            x.fence(asker);
            for (int kind = 0; kind < 5; kind++) {
                int own = Scenes.put(x, kind, asker, 100 + kind);
                due("kind " + kind + " behind its asker's fence", x.look(own, 6), 1);
                int other = Scenes.put(x, kind, (asker + 1) % 4, 200 + kind);
                due("kind " + kind + " of another", x.look(other, 6), 0);
            }
            due("the ask ahead of the fence", x.look(0, 6), 0);
            due("the fence itself", x.look(1, 6), 0);
        }
        RowBank y = new RowBank();
        y.fence(0);
        y.fence(1);
        due("two fences have no address in common", y.look(1, 6), 0);
        y.ask(0, 0);
        due("behind a fence that waits for its tick alone", y.look(2, 6), 1);
        y.run(1);
        due("which was done", y.look(2, 6), 0);
    }

    /** One that is HELD holds others, till it is done itself. */
    private static void heldOnlyWhileItWaits() {
        CHECKS.words(HELD);
        RowBank x = Scenes.quick();
        x.write(0, 0, 1);
        x.ask(1, 0);
        x.swap(2, 0, 3);
        int[] held = {0, 1, 1};
        for (int i = 0; i < 3; i++) due("at first " + i, x.look(i, 6), held[i]);
        x.run(2);
        int[] then = {0, 0, 1};
        for (int i = 0; i < 3; i++) due("then " + i, x.look(i, 6), then[i]);
        x.run(1);
        for (int i = 0; i < 3; i++) due("at last " + i, x.look(i, 6), 0);
        x.drain(500);
        for (int i = 0; i < 3; i++) due("done " + i, x.look(i, 6), 0);
        int[] answers = {-2, 1, 1};
        for (int i = 0; i < 3; i++) due("answer " + i, x.look(i, 5), answers[i]);
    }
}
