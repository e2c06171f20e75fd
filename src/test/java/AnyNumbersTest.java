import java.util.function.Supplier;
import java.util.function.ToLongFunction;

/** No call throws by itself or answers what no promise tells, for any numbers, in any state; nor do 512 great ones. */
public final class AnyNumbersTest {
    private static final Checks CHECKS = new Checks();
    private static final int[] MANY = {Integer.MIN_VALUE, Integer.MIN_VALUE + 1, -1000, -16, -3, -2, -1, 0, 1, 2, 3, 4, 5, 6, 7, 8, 11,
        12, 13, 15, 16, 19, 20, 21, 30, 31, 60, 61, 63, 64, 255, 256, 399, 400, 401, 500, 501, 1023, 1024, 1000000, 1000001,
        Integer.MAX_VALUE - 1, Integer.MAX_VALUE};
    private static final int[] SOME = {Integer.MIN_VALUE, -2, -1, 0, 1, 3, 4, 7, 8, 13, 60, 61, 64, 255, 256, 1024, Integer.MAX_VALUE};
    private static final int[] FEW = {Integer.MIN_VALUE, -1, 0, 1, 13, 16, Integer.MAX_VALUE};
    /** Calls that an object still has when its state stands: 400 ASKS take most of the 512. */
    private static final int CALLS = 50;

    private final Supplier<RowBank> state;
    private RowBank x;
    private int left = 0;

    private AnyNumbersTest(Supplier<RowBank> state) {
        this.state = state;
    }

    public static void main(String[] args) {
        new AnyNumbersTest(RowBank::new).all();
        new AnyNumbersTest(Scenes::full).all();
        new AnyNumbersTest(AnyNumbersTest::busy).all();
        new AnyNumbersTest(Scenes::allCame).all();
        for (int order = 0; order <= 2; order++) greatTicks(order);
        CHECKS.end("AnyNumbersTest");
    }

    private static RowBank busy() {
        RowBank x = new RowBank();
        x.refresh(20, 2);
        x.order(1, 3);
        for (int i = 0; i < 12; i++) Scenes.put(x, i % 5, i % 4, 37 * i);
        x.run(41);
        for (int i = 0; i < 5; i++) Scenes.put(x, i % 5, i % 4, 901 * i % 1024);
        for (int d = 0; d < 4; d++) x.keep(d, d, d);
        x.make(5, 4, 60);
        x.make(6, 3, 0);
        return x;
    }

    private void all() {
        noNumber();
        for (int a : MANY) {
            one(a);
            for (int b : MANY) two(a, b);
        }
        for (int a : SOME) {
            for (int b : SOME) {
                for (int c : SOME) three(a, b, c);
            }
        }
        copies();
    }

    private void told(String name, ToLongFunction<RowBank> call) {
        if (left == 0) {
            x = state.get();
            left = CALLS;
        }
        left--;
        try {
            long answer = call.applyAsLong(x);
            boolean known = answer >= 0 || answer == -1 || answer == -2 || answer <= -11 && answer >= -15;
            CHECKS.holds(name + " answered " + answer, known);
        } catch (RuntimeException thrown) {
            CHECKS.holds(name + " throws " + thrown, false);
        }
    }

    private void noNumber() {
        told("next", RowBank::next);
        told("check", RowBank::check);
        told("broken", RowBank::broken);
        told("beside", RowBank::beside);
    }

    private void one(int a) {
        told("fence " + a, x -> x.fence(a));
        told("run " + a, x -> x.run(a));
        told("drain " + a, x -> x.drain(a));
        told("at " + a, x -> x.at(a));
        told("row " + a, x -> x.row(a));
        told("octet " + a, x -> x.octet(a));
        told("worst " + a, x -> x.worst(a));
        told("count " + a, x -> x.count(a));
        told("weight " + a, x -> x.weight(a));
        told("toss " + a, x -> x.toss(a));
        noNumber();
    }

    private void two(int a, int b) {
        String numbers = a + " " + b;
        told("time " + numbers, x -> x.time(a, b));
        told("refresh " + numbers, x -> x.refresh(a, b));
        told("order " + numbers, x -> x.order(a, b));
        told("ask " + numbers, x -> x.ask(a, b));
        told("look " + numbers, x -> x.look(a, b));
        told("soonest " + numbers, x -> x.soonest(a, b));
        told("log " + numbers, x -> x.log(a, b));
        told("forge " + numbers, x -> x.forge(a, b));
        told("check behind " + numbers, RowBank::check);
        told("element " + numbers, x -> Math.max(-1, Checks.elementOf(x, a, b)));
    }

    private void three(int a, int b, int c) {
        String numbers = a + " " + b + " " + c;
        told("write " + numbers, x -> x.write(a, b, c));
        told("swap " + numbers, x -> x.swap(a, b, c));
        told("mask " + numbers + " under any", x -> x.mask(a, b, c, c));
        told("mask " + numbers, x -> x.mask(1, a, b, c));
        told("keep " + numbers, x -> x.keep(a, b, c));
        told("make " + numbers, x -> x.make(a, b, c));
        told("next behind " + numbers, RowBank::next);
    }

    private void copies() {
        for (int d = -1; d <= 8; d++) {
            for (int e = -1; e <= 8; e++) {
                for (int i : FEW) {
                    for (int j : FEW) {
                        for (int n : FEW) copy(d, i, e, j, n);
                    }
                }
            }
        }
    }

    private void copy(int d, int i, int e, int j, int n) {
        told("copy " + d + " " + i + " " + e + " " + j + " " + n, x -> x.copy(d, i, e, j, n));
    }

    /** As many ticks as 512 calls can pass, with ASKS that wait and REFRESHES that are owed all along. */
    private static void greatTicks(int order) {
        CHECKS.words("An object is used for at most 512 calls after it has been made");
        RowBank x = Scenes.quick();
        x.order(order, 20);
        x.time(11, 30);
        x.refresh(20, 8);
        for (int i = 0; i < 12; i++) Scenes.put(x, i % 5, i % 4, 85 * i);
        for (int i = 0; i < 470; i++) CHECKS.holds("run", x.run(500) >= 0);
        CHECKS.due("tick", x.count(0), 235001);
        CHECKS.due("owed and done", x.count(3) + x.count(4), 11750);
        CHECKS.due("in the log", x.count(6), 400);
        CHECKS.due("check", x.check(), -2);
        CHECKS.due("soonest", x.soonest(4, 0) >= 235001 ? 1 : 0, 1);
    }
}
