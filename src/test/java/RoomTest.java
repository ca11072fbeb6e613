import com.sun.management.ThreadMXBean;
import java.lang.management.ManagementFactory;

/** What a run of the dearest calls makes: rows come from the constructor, and calls make none. */
public final class RoomTest {
    // With the calls that make the tree, and those within a call's arguments, under 512.
    private static final int ROUNDS = 400;
    private static final long MOST_BYTES_MADE = 500_000;
    private static final long MOST_BYTES_OF_CALLS = 50_000;

    private static final ThreadMXBean threads =
        (ThreadMXBean) ManagementFactory.getThreadMXBean();
    private static long sum;

    public static void main(String[] arguments) {
        Check check = new Check("RoomTest");
        // Once before it counts, as the machine makes things of its own on the first way through.
        play(made());
        long start = threads.getCurrentThreadAllocatedBytes();
        BridgedCatalogs x = made();
        long middle = threads.getCurrentThreadAllocatedBytes();
        play(x);
        long end = threads.getCurrentThreadAllocatedBytes();
        check.same("too much made: " + (middle - start), middle - start > MOST_BYTES_MADE, false);
        check.same("too much in calls: " + (end - middle), end - middle > MOST_BYTES_OF_CALLS, false);
        check.same("nothing was counted", sum == 0, false);
        check.end();
    }

    private static BridgedCatalogs made() {
        BridgedCatalogs x = new BridgedCatalogs();
        for (int i = 1; i < 15; i++) {
            x.addNode((i - 1) / 2, 2 - i % 2);
        }
        return x;
    }

    private static void play(BridgedCatalogs x) {
        for (int i = 0; i < ROUNDS; i++) {
            int node = i % 15;
            switch (i % 12) {
                case 0 -> sum += x.addSeries(node, i, 3, 24);
                case 1 -> sum += x.rebuildAll();
                case 2 -> sum += x.search(node, i);
                case 3 -> sum += x.worst(node);
                case 4 -> sum += x.digest();
                case 5 -> sum += x.undo();
                case 6 -> sum += x.remove(node, x.key(node, 0) < 0 ? 0 : x.key(node, 0)) ? 1 : 0;
                case 7 -> sum += x.plainProbes(node, i);
                case 8 -> sum += x.nearestOnPath(node, i);
                case 9 -> sum += x.rebuild(node);
                case 10 -> sum += x.setSizes(1 + i % 8, 2 + i % 4);
                default -> sum += x.key(node, 20);
            }
        }
    }
}
