import com.sun.management.ThreadMXBean;
import java.lang.management.ManagementFactory;

/** All calls of a run live in one room: a new object is small, and no call makes anything. */
public final class RoomTest {
    private static final long MOST_OF_NEW = 64 * 1024;
    // The measuring itself may make a little.
    private static final long MOST_OF_CALLS = 4 * 1024;

    private static final ThreadMXBean threads =
            (ThreadMXBean) ManagementFactory.getThreadMXBean();

    public static void main(String[] args) {
        Checks checks = new Checks("RoomTest");
        useAll(new PaperKinds());
        long before = made();
        PaperKinds papers = new PaperKinds();
        long between = made();
        useAll(papers);
        long after = made();
        checks.due("a new object of " + (between - before) + " bytes is small",
                between - before <= MOST_OF_NEW, true);
        checks.due("calls that make " + (after - between) + " bytes make nothing",
                after - between <= MOST_OF_CALLS, true);
        checks.end();
    }

    private static long made() {
        return threads.getThreadAllocatedBytes(Thread.currentThread().getId());
    }

    private static void useAll(PaperKinds papers) {
        for (int page = 0; page < 16; page++) {
            papers.page();
            for (int box = 0; box < 8; box++) {
                papers.box(page, box * 7, page * 3, 1 + (page + box * 11) % 20);
            }
            papers.tell(page, page % 7 - 1);
        }
        for (int round = 0; round < 10; round++) {
            papers.weights(1, 1, 20, 16, 8 + round);
            papers.bounds(10 * round, 10, 30);
            papers.kind(0, 1);
            papers.spot(0, 0, 0);
            papers.lay(round, 0, 10);
            papers.moved(round, 1, true);
            papers.read(round, 2, 0);
            papers.sorted(round);
            papers.told(round);
            papers.look();
            papers.heaps();
            papers.heap(5);
            papers.versions(0, 1, 0);
            papers.versions(0, 1, 1);
            papers.touch(round, 3);
            papers.about(round);
        }
    }
}
