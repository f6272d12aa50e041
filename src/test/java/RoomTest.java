import com.sun.management.ThreadMXBean;
import java.lang.management.ManagementFactory;

/** All calls of a run live in one room: the dearest calls make nothing, and a new object is small. */
public final class RoomTest {
    private static final int MOST_BYTES_OF_A_NEW_ONE = 120_000;
    // The measuring itself and the machine's own work take a little.
    private static final int MOST_BYTES_OF_CALLS = 20_000;

    private static long sum = 0;

    public static void main(String[] args) {
        ThreadMXBean threads = (ThreadMXBean) ManagementFactory.getThreadMXBean();
        dearCalls(full());
        long start = threads.getCurrentThreadAllocatedBytes();
        MastSparks x = full();
        long made = threads.getCurrentThreadAllocatedBytes();
        for (int i = 0; i < 4; i++) {
            dearCalls(x);
        }
        long called = threads.getCurrentThreadAllocatedBytes();
        System.out.println("a new object: " + (made - start) + " bytes, its calls: " + (called - made) + " bytes, " + sum);
        boolean fine = made - start <= MOST_BYTES_OF_A_NEW_ONE && called - made <= MOST_BYTES_OF_CALLS;
        System.out.println("RoomTest: " + (fine ? "1 passed, 0 failed" : "0 passed, 1 failed"));
        if (!fine) {
            System.exit(1);
        }
    }

    private static MastSparks full() {
        MastSparks x = new MastSparks();
        for (int i = 0; i < 6; i++) {
            // "leak 7 10 from 0;spark 7 if gap>30;"
            x.feed(1818583403, 540483633, 807429746, 1869422640, 997421153);
            x.feed(1919623223, 543778336, 1734438974, 858798848, 0);
            x.why(35);
        }
        for (int i = 0; i < 10; i++) {
            x.row(i % 6, 11, 7, 1, 3);
            x.before(2, 200);
            x.option(i, 1, 1);
        }
        return x;
    }

    private static void dearCalls(MastSparks x) {
        for (int i = 0; i < 6; i++) {
            x.set(0, i);
            sum += x.all(99) + x.least(i, 99) + x.dry(i) + x.share(i) + x.moved(i, i) + x.odds(i) + x.best() + x.next(50);
            sum += x.inquiry(1023, i) + x.parted(0, i) + x.order(i, 3) + x.burnt(i) + x.image() + x.restore() + x.fault();
            x.feed(1818583403, 540483633, 807429746, 1869422640, 997421153);
            sum += x.why(20);
        }
    }
}
