/** One method a promise, with answers worked out by hand from the document. */
public final class PromiseTest {
    private static final Checks CHECKS = new Checks();

    private static void due(String call, long got, long want) {
        CHECKS.due(call, got, want);
    }

    public static void main(String[] args) {
        promise1();
        promise2();
        promise2Rules();
        promise3();
        promise4();
        promise4Limit();
        promise4LimitAnew();
        promise4Shares();
        promise4Next();
        promises5To9();
        promises5To9Kinds();
        promises5To9Full();
        promises5To9FourHundred();
        promise9();
        promise10();
        promise11();
        promise12();
        promise13();
        promise14();
        promise15();
        promise16And17();
        promise18();
        promise18FourHundred();
        promise19To21();
        promise22();
        promise23();
        promise24();
        promise25();
        promise26();
        promise27();
        promise28();
        promise29And30();
        addresses();
        CHECKS.end("PromiseTest");
    }

    private static void promise1() {
        RowBank x = new RowBank();
        due("1 tick", x.count(0), 1);
        for (int what = 1; what <= 11; what++) due("1 count " + what, x.count(what), 0);
        for (int b = 0; b < 4; b++) {
            due("1 row " + b, x.row(b), -2);
            due("1 worst " + b, x.worst(b), -2);
        }
        for (int a = 0; a < 1024; a += 93) due("1 octet " + a, x.octet(a), 0);
        due("1 at", x.at(0), -2);
        due("1 next", x.next(), -2);
        due("1 look", x.look(0, 0), -1);
        due("1 log", x.log(0, 0), -1);
        due("1 broken", x.broken(), -2);
        due("1 check", x.check(), -2);
        due("1 beside", x.beside(), 1);
        for (int d = 0; d < 8; d++) due("1 weight " + d, x.weight(d), -11);
        x.ask(0, 0);
        x.run(1);
        x.ask(0, 64);
        x.ask(0, 1);
        due("1 order is FIRST", x.at(1), 1);
        x.run(500);
        x.run(500);
        due("1 nothing is owed", x.count(3) + x.count(4), 0);
    }

    private static void promise2() {
        RowBank x = new RowBank();
        for (int rule = 0; rule <= 12; rule++) {
            due("2 time " + rule, x.time(rule, 1), Scenes.FIRST_TIMES[rule]);
            due("2 again " + rule, x.time(rule, 30), 1);
            due("2 too little " + rule, x.time(rule, 0), -1);
            due("2 too much " + rule, x.time(rule, 31), -1);
            due("2 as it was " + rule, x.time(rule, 7), 30);
        }
        due("2 rule -1", x.time(-1, 5), -1);
        due("2 rule 13", x.time(13, 5), -1);
    }

    private static void rule(RowBank x, int rule, int command, int bank, int from) {
        due("rule " + rule + " before", x.time(rule, 30), 1);
        due("rule " + rule + " of command " + command + ", bank " + bank, x.soonest(command, bank), from + 30);
        x.time(rule, 1);
    }

    /** OPEN 0 at 1, READ 0 at 2, WRITE 0 at 3, SHUT 0 at 4, then OPEN and READ of 0, 1, 2, 3 from 5 to 12. */
    private static RowBank busy() {
        RowBank x = Scenes.quick();
        x.ask(0, 0);
        x.run(2);
        x.write(0, 1, 9);
        x.run(1);
        x.ask(0, 256);
        x.run(3);
        for (int bank = 1; bank <= 3; bank++) {
            x.ask(0, 16 * bank);
            x.run(2);
        }
        return x;
    }

    private static void promise2Rules() {
        RowBank x = busy();
        due("rules tick", x.count(0), 13);
        due("rules commands", x.count(5), 12);
        rule(x, 0, 2, 0, 5);
        rule(x, 0, 3, 2, 9);
        rule(x, 1, 1, 0, 5);
        rule(x, 3, 1, 0, 6);
        rule(x, 4, 1, 0, 3);
        rule(x, 5, 2, 0, 8);
        rule(x, 5, 3, 3, 12);
        rule(x, 5, 3, 2, 12);
        rule(x, 6, 3, 1, 12);
        rule(x, 6, 2, 2, 8);
        rule(x, 7, 3, 0, 12);
        rule(x, 8, 2, 3, 3);
        x.write(0, 32, 1);
        x.run(1);
        rule(x, 5, 3, 3, 13);
        rule(x, 6, 3, 1, 13);
        rule(x, 4, 1, 2, 13);
        x.refresh(20, 1);
        x.run(11);
        x.refresh(0, 1);
        due("rules shut", x.log(13, 0), 20);
        due("rules shut last", x.log(16, 0), 23);
        due("rules refreshed", x.log(17, 0), 24);
        due("rules refresh", x.log(17, 1), 4);
        rule(x, 2, 0, 0, 20);
        rule(x, 2, 0, 3, 23);
        rule(x, 9, 0, 0, 11);
        rule(x, 9, 0, 3, 9);
        rule(x, 10, 0, 0, 5);
        rule(x, 11, 0, 2, 24);
        rule(x, 11, 4, 0, 24);
        rule(x, 12, 4, 0, 23);
        due("no rule", x.soonest(0, 0), 25);
    }

    private static void promise3() {
        RowBank x = new RowBank();
        int[][] good = {{0, 1}, {20, 8}, {400, 1}, {20, 1}};
        for (int[] g : good) due("3 refresh " + g[0], x.refresh(g[0], g[1]), 0);
        int[][] bad = {{-1, 1}, {1, 1}, {19, 1}, {401, 1}, {20, 0}, {20, 9}, {0, 0}, {0, 9}, {-20, 1}};
        for (int[] b : bad) due("3 refresh " + b[0] + " " + b[1], x.refresh(b[0], b[1]), -1);
        due("3 idle", x.run(19), 0);
        due("3 owed not yet", x.count(3), 0);
        x.run(1);
        due("3 done at once", x.count(4), 1);
        due("3 at 20", x.log(0, 0), 20);
        RowBank y = new RowBank();
        y.refresh(20, 2);
        y.time(0, 30);
        y.ask(0, 0);
        y.run(20);
        due("3 one owed, one waits", y.count(3), 1);
        due("3 no refresh", y.count(4), 0);
        due("3 read at 31", y.run(11), 1);
        due("3 shut", y.run(2), 0);
        due("3 row", y.row(0), -2);
        y.run(3);
        due("3 refresh behind shut", y.log(3, 0), 36);
        due("3 owed", y.count(3), 0);
        promise3Due();
    }

    /** DUE before ASKS: the least BANK that can be SHUT goes, though its ROW is asked for. */
    private static void promise3Due() {
        RowBank x = new RowBank();
        x.refresh(20, 1);
        x.ask(0, 16);
        x.ask(0, 0);
        x.run(10);
        x.time(5, 30);
        x.ask(0, 1);
        due("3 due waits", x.run(9), 0);
        due("3 due next", x.next(), 1);
        due("3 due shuts", x.run(1), 0);
        due("3 bank 0 first", x.log(4, 2), 0);
        due("3 for no ask", x.log(4, 4), -2);
        x.run(1);
        due("3 bank 1 then", x.log(5, 2), 1);
        due("3 none can go", x.next(), -2);
        x.run(3);
        due("3 refreshed", x.log(6, 1), 4);
        due("3 at", x.log(6, 0), 24);
    }

    private static void promise4() {
        RowBank x = new RowBank();
        int[][] good = {{0, 1}, {0, 20}, {1, 20}, {2, 1}};
        for (int[] g : good) due("4 order " + g[0], x.order(g[0], g[1]), 0);
        int[][] bad = {{-1, 4}, {3, 4}, {0, 0}, {1, 21}, {2, -1}};
        for (int[] b : bad) due("4 order " + b[0] + " " + b[1], x.order(b[0], b[1]), -1);
        x.order(1, 1);
        x.ask(0, 0);
        x.run(1);
        x.ask(0, 256);
        x.ask(0, 1);
        due("4 row open", x.at(1), 2);
        due("4 row not open", x.at(2), 1);
        due("4 done", x.run(3), 1);
        due("4 still open rows", x.at(0), 2);
        x.order(0, 1);
        due("4 first", x.at(0), 1);
    }

    private static void promise4Limit() {
        RowBank x = Scenes.quick();
        x.order(1, 2);
        x.ask(0, 0);
        x.run(1);
        x.ask(1, 256);
        x.ask(0, 1);
        x.ask(0, 2);
        x.ask(0, 3);
        x.run(1);
        due("4 oldest waits", x.at(2), 4);
        due("4 0 went since", x.at(0), 2);
        x.run(1);
        due("4 1 went since", x.at(0), 3);
        x.run(1);
        due("4 2 went since", x.at(0), 1);
        x.order(1, 3);
        due("4 of 3", x.at(0), 4);
        x.order(1, 2);
        x.run(2);
        due("4 oldest opens", x.row(0), 4);
        x.run(1);
        due("4 oldest done", x.look(1, 4), 7);
        due("4 last one", x.at(0), 4);
    }

    /** What went before an ASK came counts nothing, when none but FENCES waited then. */
    private static void promise4LimitAnew() {
        for (int fences = 0; fences < 2; fences++) {
            RowBank x = Scenes.quick();
            x.order(1, 1);
            x.ask(0, 0);
            x.ask(0, 1);
            x.drain(500);
            if (fences == 1) x.fence(3);
            int first = x.ask(0, 256);
            x.ask(0, 2);
            due("4 none went since it came", x.at(0), first + 1);
            x.run(1);
            due("4 one went since", x.at(0), first);
            int third = x.ask(0, 3);
            due("4 still", x.at(0), first);
            due("4 third", x.at(1), third);
        }
    }

    /** SHUT and OPEN are for the first of a BANK alone, READ and WRITE for all. */
    private static void promise4Next() {
        RowBank x = Scenes.quick();
        x.time(1, 30);
        x.ask(0, 0);
        x.drain(500);
        x.ask(0, 256);
        x.ask(0, 1);
        x.write(0, 2, 7);
        x.ask(0, 512);
        due("4 next is READ", x.next(), 2);
        x.run(1);
        due("4 READ of the second", x.look(2, 4), 3);
        due("4 next is WRITE", x.next(), 3);
        x.run(1);
        due("4 WRITE of the third", x.look(3, 4), 4);
        due("4 SHUT can't go", x.next(), -2);
        RowBank y = Scenes.quick();
        y.time(0, 30);
        y.ask(0, 0);
        y.ask(0, 256);
        y.ask(0, 16);
        y.run(2);
        due("4 other bank's OPEN", y.row(1), 0);
        due("4 no SHUT ahead of the first", y.next(), -2);
        y.run(28);
        due("4 READ first", y.next(), 2);
        RowBank z = Scenes.quick();
        z.write(0, 0, 1);
        z.fence(1);
        z.ask(1, 256);
        z.ask(0, 0);
        z.run(1);
        due("4 not for one that is held", z.look(3, 6), 1);
        due("4 WRITE", z.next(), 3);
        z.run(1);
        due("4 SHUT for the one that isn't", z.next(), 1);
        z.run(1);
        due("4 which one", z.log(2, 4), 2);
    }

    private static void promise4Shares() {
        RowBank x = Scenes.quick();
        x.order(2, 20);
        x.ask(0, 0);
        x.ask(1, 0);
        x.ask(0, 0);
        x.fence(2);
        x.ask(2, 0);
        x.ask(1, 0);
        int[] before = {0, 2, 1, 5, 4, -2};
        for (int i = 0; i < 6; i++) due("4 shares " + i, x.at(i), before[i]);
        x.run(2);
        int[] behind = {1, 5, 4, 2, -2};
        for (int i = 0; i < 5; i++) due("4 shares then " + i, x.at(i), behind[i]);
    }

    private static void promises5To9() {
        RowBank x = new RowBank();
        due("5", x.ask(0, 0), 0);
        due("5 greatest", x.ask(3, 1023), 1);
        due("6", x.write(3, 1023, 255), 2);
        due("6 least", x.write(0, 0, 0), 3);
        due("7", x.mask(0, 0, 0, 0), 4);
        due("7 greatest", x.mask(3, 1023, 255, 255), 5);
        due("8", x.swap(0, 0, 0), 6);
        due("8 greatest", x.swap(3, 1023, 255), 7);
        due("9", x.fence(0), 8);
        due("9 greatest", x.fence(3), 9);
        int[][] wrong = {{-1, 0, 0, 0}, {4, 0, 0, 0}, {0, -1, 0, 0}, {0, 1024, 0, 0}};
        for (int[] w : wrong) {
            due("5 wrong", x.ask(w[0], w[1]), -1);
            due("6 wrong", x.write(w[0], w[1], 0), -1);
            due("7 wrong", x.mask(w[0], w[1], 0, 0), -1);
            due("8 wrong", x.swap(w[0], w[1], 0), -1);
        }
        int[] octets = {-1, 256, Integer.MIN_VALUE, Integer.MAX_VALUE};
        for (int v : octets) {
            due("6 v", x.write(0, 0, v), -1);
            due("7 v", x.mask(0, 0, v, 0), -1);
            due("7 mask", x.mask(0, 0, 0, v), -1);
            due("8 v", x.swap(0, 0, v), -1);
        }
        due("9 wrong", x.fence(-1), -1);
        due("9 wrong", x.fence(4), -1);
        due("came", x.count(1), 10);
    }

    private static void promises5To9Kinds() {
        RowBank x = new RowBank();
        x.write(0, 9, 0xA5);
        x.mask(1, 9, 0x3C, 0xF0);
        x.swap(2, 9, 7);
        x.ask(3, 9);
        x.mask(3, 9, 255, 0);
        x.ask(3, 9);
        x.drain(500);
        due("6 no answer", x.look(0, 5), -2);
        due("7 no answer", x.look(1, 5), -2);
        due("8 answer", x.look(2, 5), 0x35);
        due("5 answer", x.look(3, 5), 7);
        due("7 no bits", x.look(5, 5), 7);
        due("octet", x.octet(9), 7);
        int[] by = {3, 3, 3, 2, 3, 2};
        for (int i = 0; i < 6; i++) due("command of " + i, x.log(i + 1, 1), by[i]);
    }

    private static void promises5To9Full() {
        RowBank x = new RowBank();
        for (int i = 0; i < 11; i++) due("5 of 12", x.ask(0, i), i);
        due("9 the 12th", x.fence(0), 11);
        due("5 full", x.ask(0, 0), -2);
        due("6 full", x.write(0, 0, 0), -2);
        due("7 full", x.mask(0, 0, 0, 0), -2);
        due("8 full", x.swap(0, 0, 0), -2);
        due("9 full", x.fence(1), -2);
        due("5 wrong first", x.ask(4, 0), -1);
        due("6 wrong first", x.write(0, 0, 256), -1);
        due("7 wrong first", x.mask(0, 0, 0, -1), -1);
        due("8 wrong first", x.swap(0, 1024, 0), -1);
        due("9 wrong first", x.fence(9), -1);
        due("came", x.count(1), 12);
        x.run(4);
        due("5 room again", x.ask(1, 1), 12);
    }

    private static void promises5To9FourHundred() {
        RowBank x = Scenes.quick();
        int came = 0;
        while (came < 400) {
            for (int i = 0; i < 12 && came < 400; i++) {
                due("5 of 400", i % 3 == 2 ? x.fence(0) : x.ask(i % 4, i), came);
                came++;
            }
            if (came < 400) x.drain(500);
        }
        due("5 the 401st", x.ask(0, 0), -2);
        x.drain(500);
        due("6 the 401st", x.write(0, 0, 0), -2);
        due("9 the 401st", x.fence(0), -2);
        due("came", x.count(1), 400);
        due("wait", x.count(2), 0);
        due("look", x.look(399, 0), 0);
        due("look 400", x.look(400, 0), -1);
    }

    private static void promise9() {
        RowBank x = new RowBank();
        x.ask(0, 0);
        x.fence(0);
        x.ask(0, 1);
        x.fence(0);
        x.fence(0);
        x.fence(1);
        due("9 held", x.look(2, 6), 1);
        due("9 first fence is not", x.look(1, 6), 0);
        due("9 second is", x.look(3, 6), 1);
        due("9 other asker's is not", x.look(5, 6), 0);
        due("9 idle fence done", x.run(1), 1);
        due("9 at its beginning", x.look(5, 4), 1);
        x.run(3);
        due("9 read", x.look(0, 4), 4);
        due("9 not in that tick", x.look(1, 4), 0);
        due("9 still holds", x.look(2, 6), 1);
        due("9 done", x.run(1), 1);
        due("9 in the next", x.look(1, 4), 5);
        due("9 holds no more", x.look(2, 6), 0);
        due("9 has no answer", x.look(1, 5), -2);
        x.run(4);
        due("9 both at once", x.look(3, 4) * 100 + x.look(4, 4), 909);
    }

    private static void promise10() {
        RowBank x = new RowBank();
        due("10 least", x.run(1), 0);
        due("10 greatest", x.run(500), 0);
        due("10 tick", x.count(0), 502);
        int[] wrong = {0, -1, 501, Integer.MIN_VALUE, Integer.MAX_VALUE};
        for (int n : wrong) due("10 run " + n, x.run(n), -1);
        due("10 tick still", x.count(0), 502);
        x.ask(0, 0);
        x.fence(0);
        due("10 done", x.run(4), 1);
        due("10 fence done", x.run(1), 1);
    }

    private static void promise11() {
        RowBank x = new RowBank();
        due("11 nothing waits", x.drain(500), 0);
        int[] wrong = {0, -1, 501, Integer.MIN_VALUE, Integer.MAX_VALUE};
        for (int n : wrong) due("11 drain " + n, x.drain(n), -1);
        x.ask(0, 0);
        due("11 at most", x.drain(1), 1);
        due("11 till done", x.drain(500), 3);
        x.fence(0);
        due("11 fence", x.drain(500), 1);
        due("11 tick", x.count(0), 6);
    }

    private static void promise12() {
        RowBank x = new RowBank();
        x.ask(0, 0);
        due("12 open", x.next(), 0);
        x.run(3);
        due("12 read", x.next(), 2);
        due("12 changes nothing", x.count(0) * 10 + x.count(2), 41);
        x.run(1);
        due("12 none", x.next(), -2);
        x.write(0, 1, 1);
        x.run(4);
        due("12 write", x.next(), 3);
        x.run(1);
        x.ask(0, 256);
        x.run(3);
        due("12 shut", x.next(), 1);
        RowBank y = new RowBank();
        y.refresh(20, 1);
        y.run(19);
        due("12 owed in this tick", y.next(), 4);
        due("12 owes none yet", y.count(3), 0);
        y.refresh(0, 1);
        due("12 never", y.next(), -2);
        y.fence(0);
        y.ask(0, 0);
        due("12 fences are done first", y.next(), 0);
        due("12 fence still waits", y.look(0, 4), 0);
        due("12 and holds", y.look(1, 6), 1);
        y.refresh(20, 2);
        due("12 an ask waits", y.next(), 0);
        RowBank z = Scenes.quick();
        z.ask(0, 0);
        z.fence(0);
        z.ask(0, 16);
        z.run(1);
        z.time(0, 30);
        due("12 a fence behind one that waits holds", z.next(), -2);
        z.ask(1, 16);
        due("12 another asker's", z.next(), 0);
    }

    private static void promise13() {
        RowBank x = new RowBank();
        x.run(1);
        x.mask(3, 777, 1, 2);
        x.fence(2);
        x.ask(1, 777);
        x.swap(0, 777, 200);
        x.ask(0, 1);
        x.ask(1, 1);
        x.write(1, 2, 3);
        int[][] first = {{2, 3, 777, 2, 0, -2, 0}, {4, 2, -2, 2, 0, -2, 0}, {0, 1, 777, 2, 0, -2, 1},
            {3, 0, 777, 2, 0, -2, 1}, {0, 0, 1, 2, 0, -2, 0}, {0, 1, 1, 2, 0, -2, 0}, {1, 1, 2, 2, 0, -2, 0}};
        for (int a = 0; a < 7; a++) {
            for (int what = 0; what < 7; what++) due("13 look " + a + " " + what, x.look(a, what), first[a][what]);
        }
        x.drain(500);
        due("13 answer", x.look(2, 5), 0);
        due("13 swap's", x.look(3, 5), 0);
        due("13 held no more", x.look(3, 6), 0);
        due("13 fence", x.look(1, 4), 2);
        due("13 done", x.look(0, 4), 5);
        int[][] wrong = {{-1, 0}, {7, 0}, {0, -1}, {0, 7}, {400, 0}, {Integer.MIN_VALUE, 0}, {Integer.MAX_VALUE, 6}};
        for (int[] w : wrong) due("13 look " + w[0] + " " + w[1], x.look(w[0], w[1]), -1);
    }

    private static void promise14() {
        RowBank x = new RowBank();
        due("14 none", x.at(0), -2);
        due("14 below", x.at(-1), -1);
        x.fence(0);
        x.ask(0, 5);
        x.ask(1, 6);
        due("14 no fences", x.at(0), 1);
        due("14 second", x.at(1), 2);
        due("14 end", x.at(2), -2);
        due("14 far", x.at(Integer.MAX_VALUE), -2);
        due("14 below", x.at(Integer.MIN_VALUE), -1);
    }

    private static void promise15() {
        RowBank x = new RowBank();
        for (int bank = 0; bank < 4; bank++) {
            due("15 open", x.soonest(0, bank), 1);
            for (int c = 1; c < 4; c++) due("15 none open", x.soonest(c, bank), -2);
        }
        due("15 refresh", x.soonest(4, 0), 1);
        due("15 refresh of no bank", x.soonest(4, -7), 1);
        due("15 refresh of no bank", x.soonest(4, 4), 1);
        int[][] wrong = {{-1, 0}, {5, 0}, {0, -1}, {0, 4}, {1, 4}, {2, -1}, {3, Integer.MAX_VALUE}};
        for (int[] w : wrong) due("15 soonest " + w[0] + " " + w[1], x.soonest(w[0], w[1]), -1);
        x.ask(0, 0);
        x.run(1);
        due("15 it is open", x.soonest(0, 0), -2);
        due("15 another", x.soonest(0, 1), 3);
        due("15 shut", x.soonest(1, 0), 9);
        due("15 read", x.soonest(2, 0), 4);
        due("15 refresh", x.soonest(4, 1), -2);
        x.time(3, 30);
        x.time(4, 30);
        due("15 shut behind no READ or WRITE", x.soonest(1, 0), 9);
        x.time(3, 2);
        x.time(4, 4);
        x.run(50);
        due("15 from now on", x.soonest(1, 0), 52);
        fourOpens();
    }

    private static void fourOpens() {
        RowBank x = Scenes.quick();
        x.time(10, 12);
        for (int bank = 0; bank < 4; bank++) x.ask(0, 16 * bank);
        x.time(0, 30);
        x.run(4);
        x.time(0, 1);
        x.drain(500);
        due("15 four opens", x.count(7), 4);
        x.time(10, 30);
        x.ask(0, 256);
        x.run(1);
        due("15 bank 0 shut", x.row(0), -2);
        due("15 behind the fourth", x.soonest(0, 0), 31);
    }

    private static void promise16And17() {
        RowBank x = new RowBank();
        int[] wrong = {-1, 4, Integer.MIN_VALUE, Integer.MAX_VALUE};
        for (int b : wrong) due("16 row " + b, x.row(b), -1);
        x.write(0, 1023, 255);
        x.run(1);
        due("16 row", x.row(0), 15);
        due("16 other", x.row(3), -2);
        due("17 not yet", x.octet(1023), 0);
        x.drain(500);
        due("17 octet", x.octet(1023), 255);
        int[] out = {-1, 1024, Integer.MIN_VALUE, Integer.MAX_VALUE};
        for (int a : out) due("17 octet " + a, x.octet(a), -1);
    }

    private static void promise18() {
        RowBank x = new RowBank();
        x.write(2, 77, 5);
        x.drain(500);
        x.ask(1, 333);
        x.drain(500);
        x.refresh(20, 1);
        x.run(60);
        int[][] log = {{1, 0, 1, 1, 0}, {4, 3, 1, 13, 0}, {9, 1, 1, -2, 1}, {12, 0, 1, 5, 1}, {15, 2, 1, 13, 1},
            {20, 1, 1, -2, -2}, {23, 4, -2, -2, -2}, {40, 4, -2, -2, -2}, {60, 4, -2, -2, -2}};
        for (int i = 0; i < log.length; i++) {
            for (int what = 0; what < 5; what++) due("18 log " + i + " " + what, x.log(i, what), log[i][what]);
        }
        int[][] wrong = {{-1, 0}, {9, 0}, {0, -1}, {0, 5}, {Integer.MAX_VALUE, 1}, {Integer.MIN_VALUE, 1}};
        for (int[] w : wrong) due("18 log " + w[0] + " " + w[1], x.log(w[0], w[1]), -1);
    }

    private static void promise18FourHundred() {
        RowBank x = Scenes.quick();
        for (int round = 0; round < 12; round++) {
            for (int i = 0; i < 12; i++) x.ask(0, i % 2 * 256);
            x.drain(500);
        }
        due("18 commands in all", x.count(5), 12 * 12 * 3 - 1);
        due("18 in the log", x.count(6), 400);
        due("18 opens in all", x.count(7), 144);
        due("18 the last", x.log(399, 0), 400);
        due("18 no more", x.log(400, 0), -1);
        due("19 the last", x.forge(399, 1000000), 400);
        due("19 no more", x.forge(400, 7), -1);
        due("20 far ahead is fine", x.check(), -2);
        x.forge(399, 399);
        due("20 the last", x.check(), 399);
    }

    private static void promise19To21() {
        RowBank x = new RowBank();
        due("21 no check yet", x.broken(), -2);
        due("19 nothing to forge", x.forge(0, 5), -1);
        x.ask(0, 0);
        x.ask(1, 16);
        x.drain(500);
        int[] ticks = {1, 3, 4, 8};
        for (int i = 0; i < 4; i++) due("19 true tick", x.log(i, 0), ticks[i]);
        int[][] wrong = {{-1, 5}, {4, 5}, {0, 0}, {0, -1}, {0, 1000001}, {Integer.MAX_VALUE, 1}};
        for (int[] w : wrong) due("19 forge " + w[0] + " " + w[1], x.forge(w[0], w[1]), -1);
        due("20 fine", x.check(), -2);
        due("19 forge", x.forge(1, 4), 3);
        due("19 log is true", x.log(1, 0), 3);
        due("20 not behind", x.check(), 2);
        due("21 none broken", x.broken(), 13);
        due("19 forge", x.forge(1, 2), 4);
        due("21 the latest check", x.broken(), 13);
        due("20 rule 9", x.check(), 1);
        due("21 rule 9", x.broken(), 9);
        x.time(9, 1);
        due("20 by its time now", x.check(), -2);
        due("21 none", x.broken(), -2);
        due("19 forge", x.forge(3, 7), 8);
        due("20 rule 5", x.check(), 3);
        due("21 rule 5", x.broken(), 5);
        x.forge(3, 4);
        x.check();
        due("21 the least, not 5", x.broken(), 0);
        due("19 greatest", x.forge(0, 1000000), 1);
        due("20 behind in order", x.check(), 1);
        due("21 rule 9", x.broken(), 9);
        due("15 not by forged ticks", x.soonest(1, 0), 9);
        due("19 least", x.forge(0, 1), 1000000);
        checkRefresh();
        checkFourthOpen();
    }

    private static void checkRefresh() {
        RowBank x = new RowBank();
        x.refresh(20, 1);
        x.ask(0, 0);
        x.run(30);
        x.ask(0, 0);
        x.run(3);
        due("20 fine", x.check(), -2);
        x.forge(3, 22);
        due("20 rule 12", x.check(), 3);
        due("21 rule 12", x.broken(), 12);
        x.forge(3, 24);
        due("20 rule 11", x.check(), 4);
        due("21 rule 11", x.broken(), 11);
        x.forge(4, 34);
        due("20 fine again", x.check(), -2);
    }

    private static void checkFourthOpen() {
        RowBank x = Scenes.quick();
        for (int i = 0; i < 5; i++) x.ask(0, 16 * (i % 4) + i / 4 * 256);
        x.drain(500);
        due("20 fine", x.check(), -2);
        due("five opens", x.count(7), 5);
        x.time(10, 30);
        int fifth = 0;
        for (int i = 0; i < x.count(6); i++) if (x.log(i, 1) == 0) fifth = i;
        due("20 fifth open", x.check(), fifth);
        due("21 rule 10", x.broken(), 10);
        for (int i = fifth; i < x.count(6); i++) x.forge(i, x.log(0, 0) + 30 + i - fifth);
        due("20 behind the first", x.check(), -2);
        x.forge(fifth, x.log(0, 0) + 29);
        due("20 a tick less", x.check(), fifth);
    }

    private static void promise22() {
        RowBank x = new RowBank();
        due("22 wrong", x.worst(-1), -1);
        due("22 wrong", x.worst(4), -1);
        x.fence(1);
        x.run(9);
        due("22 fences aside", x.worst(1), -2);
        x.ask(1, 0);
        x.run(3);
        due("22 not done", x.worst(1), -2);
        x.run(1);
        due("22 done", x.worst(1), 3);
        x.run(9);
        x.ask(1, 1);
        x.run(1);
        due("22 the greatest stays", x.worst(1), 3);
        x.ask(1, 256);
        x.drain(500);
        due("22 greater", x.worst(1), 7);
        due("22 another's", x.worst(0), -2);
    }

    private static void promise23() {
        RowBank x = new RowBank();
        x.order(1, 20);
        x.write(0, 0, 1);
        x.write(1, 256, 2);
        x.swap(2, 0, 3);
        x.ask(3, 256);
        x.swap(2, 16, 3);
        for (int i = 0; i < 40; i++) {
            due("23 beside", x.beside(), 1);
            x.run(1);
        }
        due("23 all done", x.count(2), 0);
    }

    private static void promise24() {
        RowBank x = new RowBank();
        x.refresh(20, 8);
        x.fence(0);
        x.ask(0, 0);
        x.ask(1, 1);
        x.ask(1, 2);
        x.write(2, 3, 4);
        x.swap(3, 3, 4);
        x.mask(3, 3, 4, 4);
        x.ask(3, 4);
        x.ask(3, 256);
        x.time(2, 30);
        x.run(45);
        int[] due = {46, 9, 1, 2, 0, 9, 9, 1, 1, 2, 1, 3};
        for (int what = 0; what < 12; what++) due("24 count " + what, x.count(what), due[what]);
        int[] wrong = {-1, 12, Integer.MIN_VALUE, Integer.MAX_VALUE};
        for (int what : wrong) due("24 count " + what, x.count(what), -1);
    }

    private static void promise25() {
        RowBank x = new RowBank();
        x.write(0, 1023, 255);
        x.write(0, 79, 200);
        x.drain(500);
        due("25 row", x.keep(0, 3, 15), 0);
        due("25 its last", Checks.elementOf(x, 0, 15), 127);
        due("25 its first", Checks.elementOf(x, 0, 0), -128);
        due("25 row 1 of bank 1", x.keep(7, 3, 17), 0);
        due("25 its last", Checks.elementOf(x, 7, 15), 72);
        x.write(0, 1023, 0);
        x.drain(500);
        due("25 as it was", Checks.elementOf(x, 0, 15), 127);
        due("25 times", x.keep(1, 4, Integer.MIN_VALUE), 0);
        for (int i = 0; i < 13; i++) due("25 time " + i, Checks.elementOf(x, 1, i), Scenes.FIRST_TIMES[i]);
        x.time(0, 30);
        due("25 time as it was", Checks.elementOf(x, 1, 0), 3);
        due("25 greatest", x.keep(2, 3, 63), 0);
        due("25 ask", x.keep(2, 1, 2), 0);
        due("25 ask is held", x.weight(2), 25);
        due("25 nothing", x.keep(2, 0, 99), 0);
        due("25 nothing is held", x.weight(2), -11);
        int[][] wrong = {{-1, 0, 0}, {8, 0, 0}, {0, -1, 0}, {0, 2, 0}, {0, 5, 0}, {0, 1, -1}, {0, 1, 3},
            {0, 3, -1}, {0, 3, 64}, {8, 4, 0}};
        for (int[] w : wrong) due("25 keep " + w[0] + " " + w[1] + " " + w[2], x.keep(w[0], w[1], w[2]), -1);
        due("25 still there", Checks.elementOf(x, 0, 15), 127);
    }

    private static void promise26() {
        RowBank x = new RowBank();
        due("26 bytes", x.make(0, 3, 60), 0);
        due("26 zero", Checks.elementOf(x, 0, 59), 0);
        due("26 end", Checks.elementOf(x, 0, 60), Checks.NO_STATE);
        due("26 ints", x.make(1, 4, 2), 0);
        due("26 kinds differ", x.copy(0, 0, 1, 0, 1), -12);
        due("26 none", x.make(7, 4, 0), 0);
        due("26 of none", Checks.elementOf(x, 7, 0), Checks.NO_STATE);
        due("26 a row is held", x.weight(7), -12);
        int[][] wrong = {{-1, 3, 1}, {8, 3, 1}, {0, 2, 1}, {0, 5, 1}, {0, 0, 1}, {0, 1, 1}, {0, 3, 61}, {8, 3, -1},
            {0, 2, -1}, {0, 4, Integer.MAX_VALUE}};
        for (int[] w : wrong) due("26 make " + w[0] + " " + w[1] + " " + w[2], x.make(w[0], w[1], w[2]), -1);
        due("26 below 0", x.make(0, 3, -1), -14);
        due("26 far below 0", x.make(0, 4, Integer.MIN_VALUE), -14);
        due("26 as it was", Checks.elementOf(x, 0, 59), 0);
    }

    private static void promise27() {
        RowBank x = new RowBank();
        due("27 no shelf", Checks.elementOf(x, -1, 0), Checks.NO_ARGUMENT);
        due("27 no shelf", Checks.elementOf(x, 8, -1), Checks.NO_ARGUMENT);
        due("27 nothing", Checks.elementOf(x, 0, 0), Checks.NO_STATE);
        x.ask(0, 0);
        x.keep(0, 1, 0);
        due("27 no row", Checks.elementOf(x, 0, 0), Checks.NO_STATE);
        x.keep(0, 4, 0);
        due("27 first", Checks.elementOf(x, 0, 0), 3);
        due("27 last", Checks.elementOf(x, 0, 12), 3);
        due("27 below", Checks.elementOf(x, 0, -1), Checks.NO_STATE);
        due("27 beyond", Checks.elementOf(x, 0, 13), Checks.NO_STATE);
        due("27 far", Checks.elementOf(x, 0, Integer.MAX_VALUE), Checks.NO_STATE);
    }

    private static void promise28() {
        RowBank x = new RowBank();
        x.keep(0, 4, 0);
        x.make(1, 4, 5);
        x.make(2, 3, 5);
        x.ask(0, 0);
        x.keep(3, 1, 0);
        due("28 copy", x.copy(0, 10, 1, 2, 3), 3);
        int[] due = {0, 0, 12, 10, 3};
        for (int i = 0; i < 5; i++) due("28 element " + i, Checks.elementOf(x, 1, i), due[i]);
        due("28 onto itself", x.copy(1, 2, 1, 1, 3), 3);
        int[] then = {0, 12, 10, 3, 3};
        for (int i = 0; i < 5; i++) due("28 element then " + i, Checks.elementOf(x, 1, i), then[i]);
        due("28 and back", x.copy(1, 0, 1, 1, 4), 4);
        int[] back = {0, 0, 12, 10, 3};
        for (int i = 0; i < 5; i++) due("28 element back " + i, Checks.elementOf(x, 1, i), back[i]);
        due("28 none at the ends", x.copy(0, 13, 1, 5, 0), 0);
        int[][] wrong = {{-1, 0, 1, 0, 1, -1}, {0, 0, 8, 0, 1, -1}, {8, 0, 7, 0, 1, -1}, {7, 0, 0, 0, 1, -11},
            {0, 0, 7, 0, 1, -11}, {3, 0, 7, 0, 1, -11}, {3, 0, 0, 0, 1, -12}, {0, 0, 3, 0, 1, -12}, {3, 0, 3, 0, 0, -12},
            {0, 0, 2, 0, 1, -12}, {0, 99, 2, 0, -1, -12}, {0, -1, 1, 0, 1, -13}, {0, 0, 1, -1, 1, -13},
            {0, 0, 1, 0, -1, -13}, {0, 14, 1, 0, 0, -13}, {0, 0, 1, 6, 0, -13}, {0, 13, 1, 0, 1, -13},
            {0, 0, 1, 5, 1, -13}, {0, 0, 1, 0, 6, -13}, {1, 0, 0, 0, 6, -13},
            {0, Integer.MAX_VALUE, 1, 0, Integer.MAX_VALUE, -13}, {0, 1, 1, 1, Integer.MAX_VALUE, -13}};
        for (int[] w : wrong) {
            due("28 copy " + w[0] + " " + w[1] + " " + w[2] + " " + w[3] + " " + w[4],
                x.copy(w[0], w[1], w[2], w[3], w[4]), w[5]);
        }
        for (int i = 0; i < 5; i++) due("28 element last " + i, Checks.elementOf(x, 1, i), back[i]);
    }

    private static void promise29And30() {
        RowBank x = new RowBank();
        for (int asker = 0; asker < 4; asker += 3) {
            int first = x.ask(asker, 0);
            x.write(asker, 0, 0);
            x.mask(asker, 0, 0, 0);
            x.swap(asker, 0, 0);
            x.fence(asker);
            int[] weights = {5 + asker, 25 + asker, 50 + 2 * asker, 51 + 2 * asker, 305 + asker};
            for (int kind = 0; kind < 5; kind++) {
                x.keep(kind, 1, first + kind);
                due("29 weight of " + kind, x.weight(kind), weights[kind]);
                due("30 toss of " + kind, x.toss(kind), kind == 0 ? -15 : first + kind);
            }
        }
        x.make(6, 3, 1);
        x.keep(7, 4, 0);
        int[][] refused = {{-1, -1}, {8, -1}, {5, -11}, {6, -12}, {7, -12}, {Integer.MAX_VALUE, -1}};
        for (int[] r : refused) {
            due("29 weight " + r[0], x.weight(r[0]), r[1]);
            due("30 toss " + r[0], x.toss(r[0]), r[1]);
        }
    }

    /** BANK and ROW of ADDRESSES, as their OPEN tells them. */
    private static void addresses() {
        int[][] known = {{0, 0, 0}, {16, 1, 0}, {48, 3, 0}, {64, 1, 1}, {80, 0, 1}, {96, 3, 1}, {128, 2, 2}, {144, 3, 2},
            {192, 3, 3}, {255, 0, 3}, {256, 0, 4}, {700, 1, 10}, {1023, 0, 15}, {960, 3, 15}};
        for (int[] k : known) {
            RowBank x = new RowBank();
            x.ask(0, k[0]);
            x.run(1);
            due("bank of " + k[0], x.log(0, 2), k[1]);
            due("row of " + k[0], x.log(0, 3), k[2]);
            due("open row of " + k[0], x.row(k[1]), k[2]);
            x.run(3);
            due("place of " + k[0], x.log(1, 3), k[0] % 16);
        }
    }
}
