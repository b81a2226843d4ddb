import com.sun.management.ThreadMXBean;
import java.lang.management.ManagementFactory;

/** All that a run makes must stay small, since nothing of it is ever given back: an object and 512 dear calls. */
public final class RoomTest {
    /** Bytes for one run: far below the room (7.3 million fields and elements), so that a leak in a call shows. */
    private static final long ALLOWED = 300000;

    public static void main(String[] args) {
        ThreadMXBean threads = (ThreadMXBean) ManagementFactory.getThreadMXBean();
        long id = Thread.currentThread().getId();
        run();
        long before = threads.getThreadAllocatedBytes(id);
        run();
        long made = threads.getThreadAllocatedBytes(id) - before;
        System.out.println(made + " bytes made by one run");
        Check.due("bytes of a run are few", made <= ALLOWED ? 1 : 0, 1);
        Check.end();
    }

    /** Just 512 calls, the last one that the document promises an answer of. */
    private static void run() {
        RoughStones house = Check.rowHouse();
        for (int k = 0; k < 39; k++) {
            Check.stone(house, 1 + k % 6);
        }
        Check.fill(house, 0);
        for (int k = 0; k < 8; k++) {
            house.facet(0, 12 * k, 10 * k);
        }
        for (int k = 0; k < 6; k++) {
            house.lot(1 << k, 0);
        }
        for (int k = 0; k < 119; k++) {
            house.price(1 + k % 10, 1 + k % 7);
            house.best(0);
            house.match();
        }
        house.sell();
        house.polish(0);
        Check.due("stones by the 511th call", house.count(2), 39);
        Check.due("best by the 512th call", house.best(0), 1080);
    }
}
