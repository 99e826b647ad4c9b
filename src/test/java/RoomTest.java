import com.sun.management.ThreadMXBean;
import java.lang.management.ManagementFactory;

/** All calls of one run live in one room: searches make no objects, and a run without exceptions makes few. */
public final class RoomTest {
    private static final int CALLS = 512;
    /** Far below the room's 7.3 million fields, and above what lists and 140 kept objects take. */
    private static final long MOST_BYTES = 100_000;

    public static void main(String[] args) {
        Checks checks = new Checks("RoomTest");
        ThreadMXBean threads = (ThreadMXBean) ManagementFactory.getThreadMXBean();
        long thread = Thread.currentThread().getId();
        for (int kind = 0; kind < 5; kind++) {
            runOf(kind);
            long before = threads.getThreadAllocatedBytes(thread);
            runOf(kind);
            long bytes = threads.getThreadAllocatedBytes(thread) - before;
            checks.equal("run " + kind + " takes " + bytes + " bytes, few", bytes < MOST_BYTES, true);
        }
        checks.finish();
    }

    private static void runOf(int kind) {
        Hopyard x = new Hopyard();
        int calls = 0;
        for (int i = 0; i < 5; i++, calls += 2) {
            x.addRecipe(i % 4, 1 + i, i);
            x.addPacks(i % 4, 9);
        }
        for (int i = 0; i < 8; i++, calls++) {
            x.addVessel(i < 4 ? 'f' : 't');
        }
        for (int i = 0; i < 6; i++, calls++) {
            x.enqueue(i % 5);
        }
        for (; calls + 3 <= CALLS; calls += 3) {
            switch (kind) {
                case 0 -> x.bestForecast();
                case 1 -> x.bestForecastByTrying();
                case 2 -> x.improve();
                case 3 -> x.stockByDeliveries(0);
                default -> x.pass(30);
            }
        }
    }
}
