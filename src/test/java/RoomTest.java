import com.sun.management.ThreadMXBean;
import java.lang.management.ManagementFactory;

/** What the 512 calls of an object make, and the object itself, stays small: a run's room is counted. */
public final class RoomTest {
    private static final int CALLS = 512;
    /**
     * A run has room for 600,000 objects and 7.3 million fields and elements. An object takes 16 bytes or more
     * and an element one or more, so fewer bytes than this keep to both.
     */
    private static final long ROOM = 7_300_000;

    private final ExactEstimates x = new ExactEstimates();
    private int calls;
    private long sum;

    public static void main(String[] args) {
        ThreadMXBean threads = (ThreadMXBean) ManagementFactory.getThreadMXBean();
        long self = Thread.currentThread().getId();
        long before = threads.getThreadAllocatedBytes(self);
        RoomTest run = new RoomTest();
        run.makeCalls();
        long made = threads.getThreadAllocatedBytes(self) - before;

        Checks checks = new Checks();
        checks.due("bytes made (" + made + ", sum " + run.sum + ") stay in the room", made < ROOM ? 1 : 0, 1);
        checks.due("calls made", run.calls, CALLS);
        checks.end();
    }

    private void makeCalls() {
        while (calls < CALLS) {
            // Anew now and then, and otherwise full, where the calls that tell a number are the dearest.
            count(calls % 64 == 0 ? x.initial(5, -7, 9, 2, 8) : x.advance());
            count(x.observe(9, -8, 97, -998));
            count(x.noise(9, -2, 7));
            count(x.step(3, -2, 1, 3) ? 1 : 0);
            count(x.sign(2, 0, 1));
            count(x.bits(2, 0, 0, true));
            count(x.word(2, 0, 1, false, 1));
            count(x.compare(2, 0, 0, -7, 9));
        }
    }

    private void count(long answer) {
        calls++;
        sum += answer;
    }
}
