import com.sun.management.ThreadMXBean;
import java.lang.management.ManagementFactory;

/** All calls of one run live in one room: a desk makes its rows at once, and its calls make nothing. */
public final class RoomTest {
    private static final int BYTES_OF_A_DESK = 1500000;
    private static final int BYTES_OF_ALL_CALLS = 20000;

    private RoomTest() {
    }

    public static void main(String[] args) {
        ThreadMXBean threads = (ThreadMXBean) ManagementFactory.getThreadMXBean();
        calls(new StreamDesk());
        long before = threads.getCurrentThreadAllocatedBytes();
        StreamDesk desk = new StreamDesk();
        long made = threads.getCurrentThreadAllocatedBytes();
        calls(desk);
        long after = threads.getCurrentThreadAllocatedBytes();
        System.out.println((made - before) + " bytes for a desk, " + (after - made) + " for its calls");
        Due.yes("a desk is small", made - before < BYTES_OF_A_DESK);
        Due.yes("calls make nothing", after - made < BYTES_OF_ALL_CALLS);
        Due.end();
    }

    /** The dearest calls; what is fed is the only thing here that makes objects. */
    private static void calls(StreamDesk desk) {
        for (int compiles = 0; compiles < 3; compiles++) {
            Feed.compile(desk, "source s(a) step t = merge s, s step j = join t, t on a within 1000 check s: a + 1 else hold"
                    + " step w = window j by a every 7 late 9 (n = count, l = least time) step f = first w by n within 5");
        }
        for (int i = 0; i < 60; i++) {
            desk.value(i % 3 - 1);
            desk.push(0, i * 3);
        }
        for (int i = 0; i < 40; i++) {
            desk.mark();
            desk.replay();
            desk.back(0);
            desk.changed(3);
            desk.digest();
            desk.release(0);
        }
    }
}
