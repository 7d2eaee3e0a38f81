import com.sun.management.ThreadMXBean;
import java.lang.management.ManagementFactory;
import java.util.function.Consumer;

/**
 * A run has room for some 600,000 objects and 7.3 million fields and elements: 512 calls of any kind that take less
 * than 7.3 million bytes keep to both.
 */
public final class RoomTest {
    private static final int CALLS = 512;
    private static final long ROOM = 7_300_000;
    private static final ThreadMXBean THREADS = (ThreadMXBean) ManagementFactory.getThreadMXBean();
    private static final Due due = new Due();

    private RoomTest() {
    }

    public static void main(String[] args) {
        measure("a change that is undone", 2, x -> {
            x.dawn();
            x.undo();
        });
        measure("wind", 1, x -> x.wind(1));
        measure("dawn", 1, CloudDeeds::dawn);
        measure("bestWind", 1, x -> x.bestWind(3));
        measure("greatest", 1, x -> x.greatest(5));
        measure("ranked", 1, x -> x.ranked(3));
        measure("line", 1, x -> x.line(5));
        measure("dawnLine", 1, x -> x.dawnLine(4));
        measure("isBalanced", 1, CloudDeeds::isBalanced);
        measure("save and restore", 2, x -> {
            x.save();
            x.restore();
        });
        measure("a text", 60, x -> {
            for (char c : "dawn;dawn;dawn;dawn;dawn;dawn;dawn;dawn;dawn;dawn;dawn;dawn".toCharArray()) {
                x.feed(c);
            }
            x.run();
        });
        due.end();
    }

    private static void measure(String what, int calls, Consumer<CloudDeeds> act) {
        long before = THREADS.getThreadAllocatedBytes(Thread.currentThread().getId());
        CloudDeeds x = new CloudDeeds();
        for (int n = 0; n < 6; n++) {
            x.cloud(n, n, 1);
            x.title(n, n % 4);
            x.vine(n, n % 4);
            x.dawn();
        }
        for (int n = 24 + calls; n <= CALLS; n += calls) {
            act.accept(x);
        }
        long taken = THREADS.getThreadAllocatedBytes(Thread.currentThread().getId()) - before;
        due.holds("the calls of " + what + " take " + taken + " bytes, at most " + ROOM + ",", taken <= ROOM);
    }
}
