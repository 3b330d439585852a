import java.lang.management.ManagementFactory;
import java.util.NoSuchElementException;

/**
 * All calls of one run live in one room: a whole run of 512 of the dearest calls must make little.
 */
public final class RoomTest {
    private static final int CALLS = 512;
    /** The room has 7.3 million fields and elements, of four bytes each if they are ints. */
    private static final long MOST_BYTES = 4 * 7_300_000;

    public static void main(String[] args) {
        com.sun.management.ThreadMXBean meter =
                (com.sun.management.ThreadMXBean) ManagementFactory.getThreadMXBean();
        long made = 0;
        for (int round = 0; round < 2; round++) {
            long before = meter.getThreadAllocatedBytes(Thread.currentThread().getId());
            dearRun();
            made = meter.getThreadAllocatedBytes(Thread.currentThread().getId()) - before;
        }
        System.out.println("a run of " + CALLS + " dear calls made " + made + " bytes");
        if (made > MOST_BYTES) {
            System.exit(1);
        }
    }

    private static void dearRun() {
        Leastcode x = new Leastcode();
        int calls = 0;
        for (int p = 0; p < 8; p++) {
            x.addProgram();
            for (int i = 0; i < 4; i++) {
                x.add(p, 'i', p % 2, 0);
                calls++;
            }
        }
        x.addGoal(0, 7);
        while (calls < CALLS) {
            switch (calls % 9) {
                case 0: seek(x); break;
                case 1: x.walk(0, 4, 200); break;
                case 2: x.unlike(2); break;
                case 3: x.shrink(1, 3, 7); break;
                case 4: x.rewrite(2, 7); break;
                case 5: x.isSound(); break;
                case 6: x.sweep(3, 7); break;
                case 7: x.isSame(0, 1, 7); break;
                default: x.checksum(); break;
            }
            calls++;
        }
    }

    private static void seek(Leastcode x) {
        try {
            x.cheapest(0, 3);
        } catch (NoSuchElementException e) {
            return;
        }
    }
}
