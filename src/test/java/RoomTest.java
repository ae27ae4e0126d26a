import com.sun.management.ThreadMXBean;
import java.lang.management.ManagementFactory;

/** The room of a run: calls make nothing but the two IMAGES, a new object little. */
public final class RoomTest {
    private static final int CALLS = 512;
    private static final Checks CHECKS = new Checks();
    private static final ThreadMXBean THREADS =
            (ThreadMXBean) ManagementFactory.getThreadMXBean();
    // What the measuring itself may make; far less than an object a call.
    private static final long SLACK = 2000;

    public static void main(String[] args) {
        String text = "line 121343567121;hands 010101010101;wait 1;reach 6;bar 3;";
        // Once ahead of measuring: what is loaded at first use does not count.
        allCalls(CHECKS.told(text));
        made();
        SharedLine x = CHECKS.told(text);
        x.keep(0);
        x.keep(1);
        long before = made();
        allCalls(x);
        long bytes = made() - before;
        CHECKS.isTrue(CALLS + " rounds of calls make nothing: " + bytes, bytes < SLACK);
        before = made();
        SharedLine fresh = new SharedLine();
        bytes = made() - before;
        CHECKS.isTrue("a new object is small: " + bytes, bytes < 4000 && fresh.count(0) == 1);
        CHECKS.end();
    }

    private static long made() {
        return THREADS.getThreadAllocatedBytes(Thread.currentThread().getId());
    }

    private static int allCalls(SharedLine x) {
        int sum = 0;
        for (int i = 0; i < CALLS; i++) {
            int what = i % 3;
            x.keep(i % 2);
            sum += x.sets(0, i % 5 + 1) + x.flips(0, i % 12) + x.gives(i % 12, i % 2) + x.mends();
            sum += x.tick(i % 12, what) + x.share(what) + x.busiest(i % 2, i % 2) + x.count(what);
            sum += x.best(what) + x.slowest() + x.change() + x.tables(i % 2);
            sum += x.sees(i % 12, i % 2) + x.which(i % 2) + x.listen();
            sum += x.type('l') + x.tells();
            if (i % 8 == 7) {
                sum += x.undo() + x.back(i / 8 % 2) + x.forget() + x.clear();
            }
        }
        return sum;
    }
}
