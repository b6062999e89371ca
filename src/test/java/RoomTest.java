import com.sun.management.ThreadMXBean;
import java.lang.management.ManagementFactory;

/** What one object and 512 calls make: all of it lies in one room that is never cleared. */
public final class RoomTest {
    /** Far below 7.3 million elements of 4 bytes: four ENDS have some 64,000 of them. */
    private static final long MOST_BYTES = 1_000_000;

    private RoomTest() {
    }

    public static void main(String[] args) {
        ThreadMXBean bean = (ThreadMXBean) ManagementFactory.getThreadMXBean();
        fullRun();
        long before = bean.getCurrentThreadAllocatedBytes();
        fullRun();
        long made = bean.getCurrentThreadAllocatedBytes() - before;
        System.out.println("a run makes " + made + " bytes");
        Check.due("a run of 512 calls makes little (" + made + ")", made < MOST_BYTES, true);
        Check.finish();
    }

    private static void tellAndStart(SecretEnds x, int end) {
        int[] lengths = {20, 4, 32};
        for (int what = 0; what < 3; what++) {
            x.feed(1, 2, 3, 4, 5);
            x.feed(1, 2, 3, 4, 5);
            x.end(lengths[what]);
            x.tell(end, what);
        }
        x.start(end);
    }

    private static void fullRun() {
        SecretEnds x = new SecretEnds();
        for (int end = 0; end < 4; end++) {
            x.make(end % 2 == 1);
            tellAndStart(x, end);
        }
        for (int pair = 0; pair < 4; pair += 2) {
            x.carry(pair, pair + 1);
            x.carry(pair + 1, pair);
            x.carry(pair + 1, pair);
            x.carry(pair + 1, pair);
            x.carry(pair, pair + 1);
        }
        for (int i = 0; i < 130; i++) {
            x.update(i % 4, 1);
            x.carry(i % 4, i % 4 ^ 1);
            x.carry(i % 4 ^ 1, i % 4);
        }
        if (x.state(0, 0) != 6 || x.state(3, 0) != 6) {
            throw new IllegalStateException("the run does not connect");
        }
    }
}
