import com.sun.management.ThreadMXBean;
import java.lang.management.ManagementFactory;

/** No call makes an object, and a new object is small: what all calls of a run make stays counted. */
public final class RoomTest {
    private static final int ROUNDS = 2000;

    public static void main(String[] args) {
        ThreadMXBean threads = (ThreadMXBean) ManagementFactory.getThreadMXBean();
        long self = Thread.currentThread().getId();
        ExactEstimates x = new ExactEstimates();
        long sum = round(x);
        long before = threads.getThreadAllocatedBytes(self);
        for (int i = 0; i < ROUNDS; i++) {
            sum += round(x);
        }
        long made = threads.getThreadAllocatedBytes(self) - before;

        long beforeNew = threads.getThreadAllocatedBytes(self);
        ExactEstimates another = new ExactEstimates();
        long size = threads.getThreadAllocatedBytes(self) - beforeNew;

        Checks checks = new Checks();
        // The measuring itself may make a little, but one object a round would already be 32,000 bytes.
        checks.due("bytes made by " + ROUNDS + " rounds (" + made + ", sum " + sum + ") stay few", made < 16000 ? 1 : 0, 1);
        checks.due("bytes of a new object (" + size + ", time " + another.time() + ")", size < 32000 ? 1 : 0, 1);
        checks.end();
    }

    /** Every call of the face once or more. */
    private static long round(ExactEstimates x) {
        long sum = x.initial(5, -7, 9, 2, 8);
        for (int t = 0; t <= 3; t++) {
            sum += x.step(t, 1, -2, 3) ? 1 : 0;
            sum += x.noise(9, -t, 7) + x.observe(t, 5, 3, 99) + x.observe(9, -t, 97, -998) + x.advance();
        }
        for (int kind = 0; kind <= 3; kind++) {
            sum += x.sign(kind, 1, 1) + x.bits(kind, 1, 0, true) + x.word(kind, 0, 1, false, 1);
            sum += x.compare(kind, 2, 0, -7, 9);
        }
        return sum + x.time() + x.observations();
    }
}
