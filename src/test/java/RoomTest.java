import com.sun.management.ThreadMXBean;
import java.lang.management.ManagementFactory;

/** All calls of one run live in one room, so ticks make no objects and the dearest runs stay small. */
public final class RoomTest {
    private static final Checks CHECKS = new Checks();
    private static final ThreadMXBean THREADS = (ThreadMXBean) ManagementFactory.getThreadMXBean();

    private static long madeBy(int kind) {
        long before = THREADS.getThreadAllocatedBytes(Thread.currentThread().getId());
        RowBank x = new RowBank();
        x.order(1, 20);
        x.refresh(20, 1);
        for (int i = 0; i < 510; i++) {
            switch (kind) {
                case 0: x.swap(i % 4, i * 37 % 1024, 1); x.run(500); break;
                case 1: x.make(i % 8, 3, 60); break;
                case 2: x.beside(); break;
                case 3: x.check(); break;
                case 4: x.next(); break;
                default: x.keep(0, 4, 0); x.ask(i % 4, i); x.drain(1); x.at(3);
            }
        }
        return THREADS.getThreadAllocatedBytes(Thread.currentThread().getId()) - before;
    }

    public static void main(String[] args) {
        for (int kind = 0; kind < 6; kind++) {
            madeBy(kind);
            long made = madeBy(kind);
            CHECKS.due("bytes made by run " + kind + " (" + made + ") within bounds", made < 250000 ? 1 : 0, 1);
        }
        CHECKS.end("RoomTest");
    }
}
