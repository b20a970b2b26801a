import com.sun.management.ThreadMXBean;
import java.lang.management.ManagementFactory;

/** All calls of a run share one room: what the dearest ones make is weighed. */
public final class RoomTest {
    /** Far below 7.3 million fields and elements. */
    private static final long MOST_BYTES = 1_000_000;
    private static final int CALLS = 512;

    private static final Due DUE = new Due("RoomTest");
    private static final ThreadMXBean BEAN = (ThreadMXBean) ManagementFactory.getThreadMXBean();

    public static void main(String[] args) {
        weigh(-1);
        long idle = weigh(-1);
        for (int what = 0; what < 7; what++) {
            DUE.holds("room of run " + what, weigh(what) - idle < MOST_BYTES);
        }
        DUE.end();
    }

    private static long bytes() {
        return BEAN.getThreadAllocatedBytes(Thread.currentThread().getId());
    }

    private static long weigh(int what) {
        long before = bytes();
        SliceSeller x = new SliceSeller();
        for (int i = 0; i < 4; i++) {
            x.node(20);
        }
        // Three hops of three LINES each, which have the most PLACES of all nets.
        for (int i = 0; i < 9; i++) {
            x.line(i % 3, i % 3 + 1, 7, 1, 1);
            for (int s = 0; s < 8 && what == 0; s++) {
                x.places(s);
            }
            for (int s = 0; s < 8 && i == 0; s++) {
                x.slice(what == 1 ? 2 : 1, 0, 3, 3, 99);
                x.terms(s, 0, 5, s);
            }
        }
        for (int i = 0; i < CALLS; i++) {
            call(x, what, i);
        }
        return bytes() - before;
    }

    private static void call(SliceSeller x, int what, int i) {
        switch (what) {
            case 0 -> x.best();
            case 1 -> x.lay(i % 256);
            case 2 -> x.ways(i % 4, (i + 1) % 4);
            case 3 -> x.letIn(i % 8);
            case 4 -> x.why(i % 8);
            case 5 -> x.flow(i % 4, (i + 1) % 4, i % 24);
            case 6 -> x.run(24);
            default -> x.told(0);
        }
    }
}
