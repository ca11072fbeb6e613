/**
 * For each argument with a range: its least and its greatest value, with the answer that is due,
 * and the values just outside and farthest outside, which are refused and change nothing. Each call
 * has a new object with three nodes, of lists of 8 entries, and of bases of 4, 4 and 8 keys.
 */
public final class RangeTest {
    private static final int NONE = BridgedCatalogs.NONE;
    private static final int OWN = BridgedCatalogs.OWN;
    private static final int LEFT = BridgedCatalogs.LEFT;
    private static final int RIGHT = BridgedCatalogs.RIGHT;
    private static final int LOW = Integer.MIN_VALUE;
    private static final int HIGH = Integer.MAX_VALUE;

    private static final Check check = new Check("RangeTest");

    public static void main(String[] arguments) {
        addNode();
        add();
        remove();
        addSeriesRange();
        addSeriesEnds();
        setSizes();
        rebuild();
        search();
        probes();
        plainProbes();
        place();
        leastOnPath();
        nearestOnPath();
        worst();
        node();
        keyAndBaseKey();
        bufferKey();
        entry();
        bridge();
        count();
        check.end();
    }

    private static void inside(long want, String name, int... arguments) {
        check.due(want, Samples.threeNodes(), name, arguments);
    }

    /** Refused with each of these values in the place of the argument with this number. */
    private static void outside(String exception, int number, int[] values, String name,
            int... arguments) {
        for (int value : values) {
            int[] wrong = arguments.clone();
            wrong[number] = value;
            check.refused(Samples::threeNodes, exception, name, wrong);
        }
    }

    private static void outsideNodes(String name, int... arguments) {
        outside(Check.BOUNDS, 0, new int[] {-1, 3, LOW, HIGH}, name, arguments);
    }

    private static void outsideRange(int number, int least, int greatest, String name,
            int... arguments) {
        int[] values = {least - 1, greatest + 1, LOW, HIGH};
        outside(Check.ARGUMENT, number, values, name, arguments);
    }

    /** An index has no greatest value. */
    private static void outsideIndex(int number, String name, int... arguments) {
        outside(Check.ARGUMENT, number, new int[] {-1, LOW}, name, arguments);
    }

    private static void addNode() {
        inside(3, "addNode", 0, RIGHT);
        inside(3, "addNode", 2, LEFT);
        inside(3, "addNode", 2, RIGHT);
        outsideNodes("addNode", 0, RIGHT);
        outsideRange(1, LEFT, RIGHT, "addNode", 2, LEFT);
    }

    private static void add() {
        inside(1, "add", 0, 0);
        inside(1, "add", 0, 9999);
        inside(1, "add", 2, 0);
        inside(1, "add", 2, 9999);
        outsideNodes("add", 0, 0);
        outsideRange(1, 0, 9999, "add", 2, 0);
    }

    private static void remove() {
        inside(0, "remove", 0, 0);
        inside(0, "remove", 0, 9999);
        BridgedCatalogs x = Samples.threeNodes();
        x.add(2, 0);
        x.add(2, 9999);
        check.due(1, x, "remove", 2, 0);
        check.due(1, x, "remove", 2, 9999);
        outsideNodes("remove", 0, 12);
        outsideRange(1, 0, 9999, "remove", 2, 10);
    }

    private static void addSeriesRange() {
        inside(1, "addSeries", 0, 0, 1, 1);
        inside(1, "addSeries", 2, 9999, 1, 1);
        inside(1, "addSeries", 2, 9999, 999, 24);
        inside(9, "addSeries", 2, 2000, 999, 24);
        outsideNodes("addSeries", 0, 0, 1, 1);
        outsideRange(1, 0, 9999, "addSeries", 2, 0, 1, 1);
        outsideRange(2, 1, 999, "addSeries", 2, 0, 1, 1);
        outsideRange(3, 1, 24, "addSeries", 2, 0, 1, 1);
    }

    /** How many are added, of a series of first, difference and many, to an empty catalog. */
    private static void addSeriesEnds() {
        int[][] series = {{24, 0, 1, 24}, {1, 0, 999, 1}, {11, 0, 999, 24}, {1, 9999, 1, 24},
            {24, 9976, 1, 24}, {23, 9977, 1, 24}, {24, 17, 434, 24}, {23, 18, 434, 24}};
        for (int[] row : series) {
            BridgedCatalogs x = new BridgedCatalogs();
            check.due(row[0], x, "addSeries", 0, row[1], row[2], row[3]);
            for (int i = 0; i < row[0]; i++) {
                check.due(row[1] + i * row[2], x, "key", 0, i);
            }
            check.due(NONE, x, "key", 0, row[0]);
        }
    }

    private static void setSizes() {
        for (int capacity : new int[] {1, 8}) {
            for (int step : new int[] {2, 5}) {
                BridgedCatalogs x = Samples.threeNodes();
                check.due(42, x, "setSizes", capacity, step);
                check.due(10 * capacity + step, x, "setSizes", 4, 2);
            }
        }
        outsideRange(0, 1, 8, "setSizes", 4, 2);
        outsideRange(1, 2, 5, "setSizes", 4, 2);
    }

    private static void rebuild() {
        inside(8, "rebuild", 0);
        inside(8 + 8 + 8, "rebuild", 2);
        outsideNodes("rebuild", 0);
    }

    private static void search() {
        inside(12, "search", 0, 0);
        inside(NONE, "search", 0, 10000);
        inside(10, "search", 2, 0);
        inside(NONE, "search", 2, 10000);
        outsideNodes("search", 0, 0);
        outsideRange(1, 0, 10000, "search", 2, 0);
    }

    private static void probes() {
        // Halving 8 entries takes 4 probes before the first, and 3 behind the last.
        inside(4, "probes", 0, 0);
        inside(3, "probes", 0, 10000);
        inside(4 + 0 + 1, "probes", 2, 0);
        inside(3 + 1 + 1, "probes", 2, 10000);
        outsideNodes("probes", 0, 0);
        outsideRange(1, 0, 10000, "probes", 2, 0);
    }

    private static void plainProbes() {
        inside(3, "plainProbes", 0, 0);
        inside(2, "plainProbes", 0, 10000);
        inside(3 + 3 + 4, "plainProbes", 2, 0);
        inside(2 + 2 + 3, "plainProbes", 2, 10000);
        outsideNodes("plainProbes", 0, 0);
        outsideRange(1, 0, 10000, "plainProbes", 2, 0);
    }

    private static void place() {
        inside(0, "place", 0, 0);
        inside(8, "place", 0, 10000);
        inside(0, "place", 2, 0);
        inside(8, "place", 2, 10000);
        outsideNodes("place", 0, 0);
        outsideRange(1, 0, 10000, "place", 2, 0);
    }

    private static void leastOnPath() {
        inside(12, "leastOnPath", 0, 0);
        inside(NONE, "leastOnPath", 0, 10000);
        inside(10, "leastOnPath", 2, 0);
        inside(NONE, "leastOnPath", 2, 10000);
        outsideNodes("leastOnPath", 0, 0);
        outsideRange(1, 0, 10000, "leastOnPath", 2, 0);
    }

    private static void nearestOnPath() {
        inside(0, "nearestOnPath", 0, 0);
        inside(NONE, "nearestOnPath", 0, 10000);
        inside(2, "nearestOnPath", 2, 0);
        inside(NONE, "nearestOnPath", 2, 10000);
        outsideNodes("nearestOnPath", 0, 0);
        outsideRange(1, 0, 10000, "nearestOnPath", 2, 0);
    }

    private static void worst() {
        inside(4, "worst", 0);
        inside(7, "worst", 2);
        outsideNodes("worst", 0);
    }

    private static void node() {
        inside(NONE, "node", 0, 0);
        inside(8, "node", 0, 8);
        inside(1, "node", 2, 0);
        inside(8, "node", 2, 8);
        outsideNodes("node", 0, 0);
        outsideRange(1, 0, 8, "node", 2, 0);
    }

    private static void keyAndBaseKey() {
        for (String name : new String[] {"key", "baseKey"}) {
            inside(12, name, 0, 0);
            inside(102, name, 0, 3);
            inside(NONE, name, 0, 4);
            inside(10, name, 2, 0);
            inside(80, name, 2, 7);
            inside(NONE, name, 2, 8);
            inside(NONE, name, 2, HIGH);
            outsideNodes(name, 0, 0);
            outsideIndex(1, name, 2, 0);
        }
    }

    private static void bufferKey() {
        inside(NONE, "bufferKey", 0, 0);
        inside(NONE, "bufferKey", 2, HIGH);
        BridgedCatalogs x = Samples.waiting(7);
        check.due(10, x, "bufferKey", 0, 0);
        check.due(70, x, "bufferKey", 0, 6);
        check.due(NONE, x, "bufferKey", 0, 7);
        outsideNodes("bufferKey", 0, 0);
        outsideIndex(1, "bufferKey", 2, 0);
    }

    private static void entry() {
        inside(12, "entry", 0, 0, 0);
        inside(OWN, "entry", 0, 0, 1);
        inside(80, "entry", 0, 6, 0);
        inside(LEFT, "entry", 0, 6, 1);
        inside(102, "entry", 0, 7, 0);
        inside(80, "entry", 1, 7, 0);
        inside(RIGHT, "entry", 1, 7, 1);
        inside(NONE, "entry", 0, 8, 0);
        inside(NONE, "entry", 0, 8, 1);
        inside(NONE, "entry", 2, HIGH, 1);
        outsideNodes("entry", 0, 0, 0);
        outsideIndex(1, "entry", 2, 0, 0);
        outsideRange(2, 0, 1, "entry", 2, 0, 0);
        outsideRange(2, 0, 1, "entry", 2, 8, 0);
    }

    private static void bridge() {
        inside(0, "bridge", 0, 0, OWN);
        inside(0, "bridge", 0, 0, LEFT);
        inside(0, "bridge", 0, 0, RIGHT);
        inside(4, "bridge", 0, 8, OWN);
        inside(8, "bridge", 0, 8, LEFT);
        inside(0, "bridge", 0, 8, RIGHT);
        inside(1, "bridge", 1, 0, RIGHT);
        inside(8, "bridge", 2, 8, OWN);
        outsideNodes("bridge", 0, 0, OWN);
        outsideRange(1, 0, 8, "bridge", 2, 0, OWN);
        outsideRange(2, OWN, RIGHT, "bridge", 2, 0, OWN);
    }

    private static void count() {
        inside(0, "count", 0);
        inside(24, "count", 6);
        outsideRange(0, 0, 6, "count", 0);
    }
}
