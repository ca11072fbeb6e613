import java.math.BigInteger;
import java.util.ArrayList;
import java.util.List;

/** The boundary cases that the document names, other than ranges and refused calls, one by one. */
public final class EdgeTest {
    private static final int NONE = BridgedCatalogs.NONE;
    private static final int OWN = BridgedCatalogs.OWN;
    private static final int LEFT = BridgedCatalogs.LEFT;
    private static final int RIGHT = BridgedCatalogs.RIGHT;

    private static final Check check = new Check("EdgeTest");

    public static void main(String[] arguments) {
        emptyCatalog();
        emptyCatalogIsBuilt();
        emptyBuffer();
        emptyListWithBuffer();
        emptyListAboveAList();
        leastAndGreatestKey();
        catalogOf24();
        catalogOf24WithBufferAndMark();
        seriesIntoTheLastRoom();
        bufferReachesCapacity();
        bufferAfterSmallerCapacity();
        bufferOverCapacityStays();
        halfOfTheBaseMarked();
        halfIsOfTheBaseAlone();
        marksTakenAway();
        marksUpToTheEnd();
        fifteenNodes();
        stackDropsTheOldest();
        savedThoughNothingChanges();
        equalKeysByOrigin();
        equalKeysOfOneOrigin();
        equalMarkedKey();
        lastPlace();
        goalBeforeAll();
        goalBehindAll();
        samplesOfEachStep();
        digestWraps();
        digestOfWhatIsRead();
        check.end();
    }

    // ---- empty

    private static void emptyCatalog() {
        BridgedCatalogs x = new BridgedCatalogs();
        x.addNode(0, LEFT);
        for (int node = 0; node <= 1; node++) {
            check.rows(x, "key", node);
            check.rows(x, "baseKey", node);
            check.rows(x, "bufferKey", node);
            check.entries(x, node);
            check.due(NONE, x, "entry", node, 0, 0);
            check.due(NONE, x, "entry", node, 0, 1);
            for (int to = OWN; to <= RIGHT; to++) {
                check.bridges(x, node, to, 0);
            }
            for (int goal : new int[] {0, 10000}) {
                check.due(NONE, x, "search", node, goal);
                check.due(NONE, x, "leastOnPath", node, goal);
                check.due(NONE, x, "nearestOnPath", node, goal);
                check.due(0, x, "probes", node, goal);
                check.due(0, x, "plainProbes", node, goal);
                check.due(0, x, "place", node, goal);
            }
            check.due(0, x, "worst", node);
        }
        check.due(4, x, "count", 0);
        check.due(0, x, "count", 1);
        check.due(0, x, "count", 5);
        check.due(0, x, "count", 6);
        check.due(0, x, "remove", 1, 5);
        check.nodeValues(x, 1, 0, NONE, NONE, 1, 0, 0, 0, 0, 0);
    }

    private static void emptyCatalogIsBuilt() {
        BridgedCatalogs x = new BridgedCatalogs();
        check.due(0, x, "rebuild", 0);
        check.due(1, x, "count", 2);
        check.due(1, x, "count", 4);
        check.due(1, x, "addNode", 0, LEFT);
        check.due(3, x, "count", 2);
        check.due(1, x, "count", 4);
        check.due(0, x, "rebuildAll");
        check.due(6, x, "count", 2);
        check.due(3, x, "count", 4);
        check.due(0, x, "count", 3);
    }

    private static void emptyBuffer() {
        BridgedCatalogs x = Samples.oneBase(3);
        check.rows(x, "bufferKey", 0);
        // 2 probes by halving three keys, and none for the buffer.
        check.due(2, x, "probes", 0, 0);
        check.due(2, x, "plainProbes", 0, 0);
        check.due(1, x, "add", 0, 7);
        check.due(3, x, "probes", 0, 0);
        check.due(3, x, "plainProbes", 0, 0);
        check.due(1, x, "remove", 0, 7);
        check.rows(x, "bufferKey", 0);
        check.due(2, x, "probes", 0, 0);
        check.due(2, x, "plainProbes", 0, 0);
    }

    /** No list to search in, but each key of the buffer is a probe, also those less than x. */
    private static void emptyListWithBuffer() {
        BridgedCatalogs x = new BridgedCatalogs();
        x.add(0, 5);
        x.add(0, 3);
        x.add(0, 8);
        check.entries(x, 0);
        int[][] answers = {{0, 3}, {3, 3}, {4, 5}, {5, 5}, {6, 8}, {8, 8}, {9, NONE}, {10000, NONE}};
        for (int[] row : answers) {
            check.due(row[1], x, "search", 0, row[0]);
            check.due(row[1], x, "leastOnPath", 0, row[0]);
            check.due(row[1] == NONE ? NONE : 0, x, "nearestOnPath", 0, row[0]);
            check.due(3, x, "probes", 0, row[0]);
            check.due(3, x, "plainProbes", 0, row[0]);
            check.due(0, x, "place", 0, row[0]);
        }
        check.due(3, x, "worst", 0);
        check.due(3 * answers.length, x, "count", 1);
    }

    /** A list of one entry has no sample at step 2, so that the list above it stays empty. */
    private static void emptyListAboveAList() {
        BridgedCatalogs x = new BridgedCatalogs();
        x.setSizes(1, 2);
        x.addNode(0, RIGHT);
        x.add(1, 100);
        check.entries(x, 0);
        check.bridges(x, 0, OWN, 0);
        check.bridges(x, 0, LEFT, 0);
        check.bridges(x, 0, RIGHT, 1);
        // From the last place back to the first: the key is at least x, and then there is no more.
        check.due(1, x, "probes", 1, 100);
        check.due(0, x, "place", 1, 100);
        check.due(100, x, "search", 1, 100);
        check.due(1, x, "probes", 1, 101);
        check.due(1, x, "place", 1, 101);
        check.due(NONE, x, "search", 1, 101);
        check.due(1, x, "worst", 1);
    }

    // ---- keys

    private static void leastAndGreatestKey() {
        BridgedCatalogs x = new BridgedCatalogs();
        x.add(0, 9999);
        x.add(0, 0);
        for (int kept = 0; kept <= 1; kept++) {
            check.rows(x, "key", 0, 0, 9999);
            check.due(0, x, "search", 0, 0);
            check.due(9999, x, "search", 0, 1);
            check.due(9999, x, "search", 0, 9999);
            check.due(NONE, x, "search", 0, 10000);
            check.due(0, x, "leastOnPath", 0, 0);
            check.due(0, x, "nearestOnPath", 0, 0);
            check.due(9999, x, "leastOnPath", 0, 9999);
            check.due(NONE, x, "leastOnPath", 0, 10000);
            check.due(NONE, x, "nearestOnPath", 0, 10000);
            // Both wait in the buffer the first time, and are in the base the second time.
            x.rebuild(0);
        }
        check.entries(x, 0, 0, 99990);
        check.due(1, x, "remove", 0, 0);
        check.rows(x, "baseKey", 0, 10000, 9999);
        x.add(0, 0);
        x.remove(0, 9999);
        check.rows(x, "baseKey", 0, 0, 19999);
        check.due(NONE, x, "search", 0, 1);
    }

    private static void catalogOf24() {
        BridgedCatalogs x = Samples.oneBase(24);
        check.nodeValues(x, 0, NONE, NONE, NONE, 0, 24, 24, 0, 0, 24);
        check.due(240, x, "key", 0, 23);
        check.due(NONE, x, "key", 0, 24);
        check.badState(x, "add", 0, 5);
        check.due(0, x, "add", 0, 240);
        check.due(1, x, "remove", 0, 240);
        check.due(1, x, "add", 0, 5);
        check.badState(x, "add", 0, 240);
        check.due(24, x, "node", 0, 4);
        check.due(24, x, "node", 0, 5);
    }

    /** What counts is the catalog: not the marked keys, but those of the buffer. */
    private static void catalogOf24WithBufferAndMark() {
        BridgedCatalogs x = Samples.oneBase(21);
        x.setSizes(8, 2);
        for (int key = 1; key <= 3; key++) {
            check.due(1, x, "add", 0, key);
        }
        check.badState(x, "add", 0, 4);
        check.due(1, x, "remove", 0, 100);
        check.nodeValues(x, 0, NONE, NONE, NONE, 0, 23, 21, 1, 3, 21);
        check.due(1, x, "add", 0, 4);
        check.nodeValues(x, 0, NONE, NONE, NONE, 0, 24, 21, 1, 4, 21);
        check.badState(x, "add", 0, 100);
        check.due(0, x, "addSeries", 0, 100, 1, 24);
        check.due(1, x, "remove", 0, 1);
        check.due(1, x, "add", 0, 100);
        check.rows(x, "bufferKey", 0, 2, 3, 4);
        check.due(0, x, "node", 0, 6);
        check.due(24, x, "rebuild", 0);
        check.due(24, x, "node", 0, 5);
    }

    private static void seriesIntoTheLastRoom() {
        BridgedCatalogs x = Samples.oneBase(22);
        // 10 and 20 are passed over; after 15 and 25 the catalog is full.
        check.due(2, x, "addSeries", 0, 10, 5, 24);
        check.due(24, x, "node", 0, 4);
        check.due(1, x, "remove", 0, 15);
        check.due(0, x, "addSeries", 0, 10, 10, 22);
        check.due(23, x, "node", 0, 4);
        x = Samples.oneBase(23);
        check.due(1, x, "addSeries", 0, 0, 1, 1);
        check.due(0, x, "addSeries", 0, 9999, 1, 1);
        // 9999 is not greater than 9999, and ends no series.
        x = new BridgedCatalogs();
        check.due(2, x, "addSeries", 0, 9998, 1, 2);
        check.due(0, x, "addSeries", 0, 9998, 1, 24);
        check.due(1, x, "addSeries", 0, 9000, 999, 2);
        check.rows(x, "key", 0, 9000, 9998, 9999);
    }

    // ---- buffers and marks

    private static void bufferReachesCapacity() {
        for (int capacity = 1; capacity <= 8; capacity++) {
            BridgedCatalogs x = new BridgedCatalogs();
            x.setSizes(capacity, 2);
            for (int i = 1; i < capacity; i++) {
                check.due(1, x, "add", 0, i);
                check.due(i, x, "node", 0, 7);
                check.due(0, x, "node", 0, 5);
            }
            check.due(0, x, "count", 4);
            check.due(1, x, "add", 0, capacity);
            check.due(0, x, "node", 0, 7);
            check.due(capacity, x, "node", 0, 5);
            check.due(capacity, x, "node", 0, 8);
            check.due(1, x, "count", 4);
            check.due(1, x, "count", 2);
            check.due(capacity, x, "count", 3);
        }
    }

    private static void bufferAfterSmallerCapacity() {
        for (int waiting = 0; waiting <= 7; waiting++) {
            for (int capacity = 1; capacity <= 8; capacity++) {
                BridgedCatalogs x = Samples.waiting(waiting);
                x.setSizes(capacity, 2);
                check.due(waiting, x, "node", 0, 7);
                check.due(0, x, "count", 4);
                check.due(1, x, "add", 0, 5);
                boolean rebuilt = waiting + 1 >= capacity;
                check.due(rebuilt ? 1 : 0, x, "count", 4);
                check.due(rebuilt ? 0 : waiting + 1, x, "node", 0, 7);
                check.due(rebuilt ? waiting + 1 : 0, x, "node", 0, 5);
            }
        }
    }

    /** Only a key that comes to the end of the buffer can be the cause to rebuild. */
    private static void bufferOverCapacityStays() {
        BridgedCatalogs x = Samples.waiting(3);
        x.rebuild(0);
        x.addSeries(0, 1, 1, 7);
        x.setSizes(2, 2);
        check.due(0, x, "add", 0, 7);
        check.due(0, x, "addSeries", 0, 1, 1, 7);
        check.due(1, x, "remove", 0, 30);
        check.due(1, x, "add", 0, 30);
        check.due(1, x, "remove", 0, 4);
        check.rows(x, "bufferKey", 0, 1, 2, 3, 5, 6, 7);
        check.due(1, x, "count", 4);
        check.due(1, x, "add", 0, 4);
        check.due(2, x, "count", 4);
        check.rows(x, "baseKey", 0, 1, 2, 3, 4, 5, 6, 7, 10, 20, 30);
    }

    /** Just half of the keys, or one less than half, are no cause to rebuild; one more is. */
    private static void halfOfTheBaseMarked() {
        for (int many = 1; many <= 24; many++) {
            BridgedCatalogs x = Samples.oneBase(many);
            int before = x.count(4);
            int half = many / 2;
            for (int i = 1; i <= half; i++) {
                check.due(1, x, "remove", 0, 10 * i);
                check.due(i, x, "node", 0, 6);
            }
            check.due(before, x, "count", 4);
            check.due(many, x, "node", 0, 5);
            check.due(many - half, x, "node", 0, 4);
            check.due(1, x, "remove", 0, 10 * half + 10);
            check.due(before + 1, x, "count", 4);
            check.due(0, x, "node", 0, 6);
            check.due(many - half - 1, x, "node", 0, 5);
            check.due(many - half - 1, x, "node", 0, 8);
        }
    }

    /** However many keys wait in the buffer, they count on neither side. */
    private static void halfIsOfTheBaseAlone() {
        BridgedCatalogs x = Samples.oneBase(4);
        x.setSizes(8, 2);
        x.addSeries(0, 1, 1, 7);
        int before = x.count(4);
        x.remove(0, 10);
        x.remove(0, 20);
        check.nodeValues(x, 0, NONE, NONE, NONE, 0, 9, 4, 2, 7, 4);
        check.due(before, x, "count", 4);
        check.due(1, x, "remove", 0, 30);
        check.nodeValues(x, 0, NONE, NONE, NONE, 0, 8, 8, 0, 0, 8);
        check.due(before + 1, x, "count", 4);
        check.rows(x, "baseKey", 0, 1, 2, 3, 4, 5, 6, 7, 40);
    }

    /** Taking a key out of the buffer marks nothing, and a mark that is taken away is gone. */
    private static void marksTakenAway() {
        BridgedCatalogs x = Samples.oneBase(4);
        x.add(0, 5);
        x.add(0, 6);
        x.remove(0, 10);
        x.remove(0, 20);
        int before = x.count(4);
        check.due(1, x, "remove", 0, 5);
        check.due(0, x, "remove", 0, 20);
        check.due(1, x, "add", 0, 10);
        check.rows(x, "baseKey", 0, 10, 10020, 30, 40);
        check.due(1, x, "remove", 0, 40);
        check.rows(x, "baseKey", 0, 10, 10020, 30, 10040);
        check.due(before, x, "count", 4);
        check.rows(x, "bufferKey", 0, 6);
        check.due(1, x, "remove", 0, 30);
        check.due(before + 1, x, "count", 4);
        check.rows(x, "baseKey", 0, 6, 10);
    }

    /** Marks are passed over up to the end of the base, each with a probe. */
    private static void marksUpToTheEnd() {
        BridgedCatalogs x = Samples.oneBase(4);
        x.remove(0, 30);
        x.remove(0, 40);
        // Halving four keys for 25: 2, 1 and then the place 2; two marks.
        check.due(2 + 2, x, "probes", 0, 25);
        check.due(2 + 2, x, "plainProbes", 0, 25);
        check.due(NONE, x, "search", 0, 25);
        check.due(NONE, x, "leastOnPath", 0, 25);
        check.due(2 + 1, x, "probes", 0, 40);
        check.due(2 + 0, x, "probes", 0, 41);
        x.add(0, 35);
        x.add(0, 20 + 1);
        check.due(2 + 2 + 2, x, "probes", 0, 25);
        check.due(35, x, "search", 0, 25);
        check.due(NONE, x, "search", 0, 36);
        // The mark of a key between: it ends at the first key without a mark.
        x = Samples.oneBase(4);
        x.remove(0, 20);
        x.remove(0, 40);
        check.due(3 + 0, x, "probes", 0, 10);
        check.due(3 + 1, x, "probes", 0, 11);
        check.due(30, x, "search", 0, 11);
        check.due(2 + 0, x, "probes", 0, 30);
    }

    // ---- nodes and saved states

    private static void fifteenNodes() {
        BridgedCatalogs x = new BridgedCatalogs();
        for (int i = 1; i <= 14; i++) {
            check.due(i, x, "nodes");
            check.due(i, x, "addNode", i - 1, i % 2 == 0 ? LEFT : RIGHT);
            check.due(i, x, "node", i, 3);
        }
        check.due(15, x, "nodes");
        check.badState(x, "addNode", 14, LEFT);
        check.badState(x, "addNode", 0, LEFT);
        check.outOfBounds(x, "node", 15, 0);
        // Lists are built for each new node and all of its ancestors.
        check.due(14 * 17 / 2, x, "count", 2);
        check.due(1, x, "add", 14, 77);
        check.due(77, x, "search", 14, 0);
        check.due(14, x, "nearestOnPath", 14, 0);
        check.due(NONE, x, "nearestOnPath", 13, 0);
        check.due(NONE, x, "node", 14, 1);
        check.due(NONE, x, "node", 14, 2);
    }

    /** After so many undoable calls, so many states can be undone, and the latest ones at that. */
    private static void stackDropsTheOldest() {
        for (int calls = 0; calls <= 10; calls++) {
            BridgedCatalogs x = new BridgedCatalogs();
            List<String> states = new ArrayList<>();
            for (int i = 0; i < calls; i++) {
                states.add(withoutStack(x));
                x.add(0, i);
            }
            int left = Math.min(calls, 4);
            for (int i = calls - 1; left > 0; i--) {
                left--;
                check.due(left, x, "undo");
                check.same("state " + i + " of " + calls, withoutStack(x), states.get(i));
            }
            check.badState(x, "undo");
        }
    }

    /** Two states are saved before; the one that the call saves comes to them. */
    private static void savedThoughNothingChanges() {
        saved(0, "add", 2, 10);
        saved(0, "remove", 2, 11);
        saved(0, "addSeries", 2, 10, 10, 8);
        saved(0, "addSeries", 2, 80, 1, 1);
        saved(42, "setSizes", 4, 2);
        saved(8 + 4 + 2, "rebuild", 2);
        saved(8 + 4 + 2, "rebuildAll");
        saved(40, "search", 2, 35);
        saved(NONE, "search", 0, 0);
        saved(3, "addNode", 0, RIGHT);
        // A full catalog, which ends a series before its first key.
        savedIn(Samples.oneBase(24), 0, "addSeries", 0, 5, 1, 24);
        savedIn(Samples.oneBase(24), 0, "add", 0, 240);
        savedIn(Samples.oneBase(24), 0, "remove", 0, 5);
    }

    private static void saved(long want, String name, int... arguments) {
        BridgedCatalogs x = Samples.threeNodes();
        x.undo();
        x.undo();
        savedIn(x, want, name, arguments);
    }

    private static void savedIn(BridgedCatalogs x, long want, String name, int... arguments) {
        String before = Check.state(x);
        check.due(want, x, name, arguments);
        check.due(2, x, "undo");
        check.same("state after undo of " + name, Check.state(x), before);
        check.due(1, x, "undo");
    }

    /** The state but for how many states are saved. */
    private static String withoutStack(BridgedCatalogs x) {
        StringBuilder state = new StringBuilder();
        for (int index = 0; index <= 10; index++) {
            state.append(x.baseKey(0, index)).append(' ').append(x.bufferKey(0, index)).append(' ');
        }
        return state.append(x.count(4)).append(' ').append(x.count(6)).toString();
    }

    // ---- lists

    private static void equalKeysByOrigin() {
        BridgedCatalogs x = new BridgedCatalogs();
        x.setSizes(1, 2);
        x.addNode(0, RIGHT);
        x.addNode(0, LEFT);
        x.addSeries(1, 10, 10, 4);
        x.addSeries(2, 5, 15, 3);
        x.addSeries(0, 20, 20, 2);
        // 20 of all three, then 40 of the base and of the right child.
        check.entries(x, 0, 200, 201, 202, 400, 402);
        check.bridges(x, 0, OWN, 0, 0, 0, 1, 1, 2);
        check.bridges(x, 0, LEFT, 1, 1, 1, 3, 3, 3);
        check.bridges(x, 0, RIGHT, 1, 1, 1, 3, 3, 4);
        // Without a key of the base: LEFT before RIGHT.
        x.remove(0, 20);
        x.remove(0, 40);
        check.entries(x, 0, 201, 202, 402);
        check.bridges(x, 0, OWN, 0, 0, 0, 0);
        check.bridges(x, 0, LEFT, 1, 1, 3, 3);
        check.bridges(x, 0, RIGHT, 1, 1, 3, 4);
        check.due(0, x, "place", 0, 20);
        check.due(2, x, "place", 0, 21);
    }

    /** The list of node 1 has a key three times, and two of these entries come to the root. */
    private static void equalKeysOfOneOrigin() {
        BridgedCatalogs x = new BridgedCatalogs();
        x.setSizes(1, 2);
        x.addNode(0, LEFT);
        x.addNode(1, LEFT);
        x.addNode(1, RIGHT);
        x.addSeries(1, 10, 10, 2);
        x.addSeries(2, 5, 15, 2);
        x.addSeries(3, 6, 14, 2);
        x.add(0, 20);
        check.entries(x, 1, 100, 200, 201, 202);
        check.entries(x, 0, 200, 201, 201);
        check.bridges(x, 0, OWN, 0, 0, 0, 1);
        check.bridges(x, 0, LEFT, 1, 1, 1, 4);
        check.bridges(x, 1, LEFT, 1, 1, 1, 1, 2);
        check.due(0, x, "place", 0, 20);
        check.due(1, x, "place", 1, 20);
        check.due(1, x, "place", 2, 20);
        check.due(4, x, "place", 1, 21);
        check.due(2, x, "place", 2, 21);
        check.due(0, x, "place", 2, 5);
        check.due(20, x, "search", 3, 7);
    }

    /** A marked key is an entry of the list as before. */
    private static void equalMarkedKey() {
        BridgedCatalogs x = new BridgedCatalogs();
        x.addNode(0, LEFT);
        x.addSeries(1, 10, 10, 4);
        x.addSeries(0, 20, 20, 4);
        x.remove(0, 20);
        x.remove(1, 20);
        x.addNode(0, RIGHT);
        check.entries(x, 1, 100, 200, 300, 400);
        check.entries(x, 0, 200, 201, 400, 401, 600, 800);
        check.bridges(x, 0, OWN, 0, 0, 1, 1, 2, 3, 4);
        check.due(30, x, "search", 1, 20);
        check.due(40, x, "search", 0, 20);
    }

    private static void lastPlace() {
        BridgedCatalogs x = Samples.threeNodes();
        x.remove(0, 102);
        x.remove(2, 80);
        x.add(2, 90);
        x.rebuild(1);
        // All keys of the base, marked ones too, but not the buffer; all entries of a child.
        int[][] bridges = {{4, 8, 0}, {4, 0, 8}, {8, 0, 0}};
        for (int node = 0; node <= 2; node++) {
            for (int to = OWN; to <= RIGHT; to++) {
                check.due(bridges[node][to], x, "bridge", node, 8, to);
                check.badArgument(x, "bridge", node, 9, to);
            }
            check.due(NONE, x, "entry", node, 8, 0);
            check.due(NONE, x, "entry", node, 8, 1);
            check.due(8, x, "place", node, 103);
        }
        check.due(90, x, "search", 2, 81);
        check.due(8, x, "place", 2, 81);
        check.due(7, x, "place", 0, 81);
    }

    private static void goalBeforeAll() {
        BridgedCatalogs x = Samples.threeNodes();
        int[] least = {12, 15, 10};
        int[] probes = {4, 4, 5};
        int[] plain = {3, 6, 10};
        for (int node = 0; node <= 2; node++) {
            check.due(least[node], x, "search", node, 0);
            check.due(0, x, "place", node, 0);
            check.due(probes[node], x, "probes", node, 0);
            check.due(plain[node], x, "plainProbes", node, 0);
        }
        check.due(4 + 4 + 5, x, "count", 1);
        check.due(12, x, "leastOnPath", 1, 0);
        check.due(0, x, "nearestOnPath", 1, 0);
        check.due(10, x, "leastOnPath", 2, 0);
        check.due(2, x, "nearestOnPath", 2, 0);
    }

    private static void goalBehindAll() {
        BridgedCatalogs x = Samples.threeNodes();
        x.add(2, 9999);
        int[] probes = {3, 4, 6};
        int[] plain = {2, 4, 8};
        for (int node = 0; node <= 2; node++) {
            check.due(NONE, x, "search", node, 10000);
            check.due(NONE, x, "leastOnPath", node, 10000);
            check.due(NONE, x, "nearestOnPath", node, 10000);
            check.due(8, x, "place", node, 10000);
            check.due(probes[node], x, "probes", node, 10000);
            check.due(plain[node], x, "plainProbes", node, 10000);
        }
        check.due(3, x, "count", 0);
        check.due(3 + 4 + 6, x, "count", 1);
        check.due(9999, x, "leastOnPath", 2, 9999);
        check.due(NONE, x, "leastOnPath", 1, 9999);
    }

    /** The first sample is the entry with the number step - 1; one entry less, and there is none. */
    private static void samplesOfEachStep() {
        for (int step = 2; step <= 5; step++) {
            for (int many = 1; many <= 24; many++) {
                BridgedCatalogs x = new BridgedCatalogs();
                x.addNode(0, RIGHT);
                x.setSizes(1, step);
                x.addSeries(1, 10, 10, many);
                int[] samples = new int[many / step];
                for (int i = 0; i < samples.length; i++) {
                    samples[i] = 100 * step * (i + 1) + RIGHT;
                }
                check.entries(x, 0, samples);
            }
        }
    }

    // ---- digest

    /** The hash without a bound, and what of it is left in 64 bits. */
    private static BigInteger unbounded(List<Integer> values) {
        BigInteger h = BigInteger.valueOf(18592);
        for (int value : values) {
            h = h.multiply(BigInteger.valueOf(31)).add(BigInteger.valueOf(value));
        }
        return h;
    }

    private static void digestWraps() {
        BridgedCatalogs x = new BridgedCatalogs();
        BigInteger h = unbounded(List.of(0, 4, 2, 1, -1, -1, -1, 0, 0, 0, 0, 0, 0, 0, 0, 0, 0, 0, 0,
            0, 0));
        check.same("it is longer than a long", h.bitLength() > 64, true);
        check.due(h.longValue(), x, "digest");
        check.due(h.longValue(), x, "digest");
        boolean below = false;
        boolean above = false;
        for (int i = 1; i <= 20; i++) {
            x.search(0, i);
            long digest = x.digest();
            check.same("digest " + i, digest, hashOfWhatIsRead(x, Math.min(i, 4), 4, 2));
            below |= digest < 0;
            above |= digest > 0;
        }
        check.same("negative and positive ones", below && above, true);
    }

    private static void digestOfWhatIsRead() {
        digestIsRead(new BridgedCatalogs(), 0, 4, 2);
        digestIsRead(Samples.oneBase(24), 2, 4, 2);
        digestIsRead(Samples.threeNodes(), 4, 4, 2);
        digestIsRead(Samples.busy(), 4, 4, 2);
        digestIsRead(Samples.waiting(7), 4, 8, 2);
        digestIsRead(Samples.chain(15), 4, 4, 2);
        BridgedCatalogs x = Samples.threeNodes();
        x.undo();
        x.undo();
        x.setSizes(1, 5);
        digestIsRead(x, 3, 1, 5);
    }

    private static void digestIsRead(BridgedCatalogs x, int stack, int capacity, int step) {
        check.due(hashOfWhatIsRead(x, stack, capacity, step), x, "digest");
    }

    /** The values of the digest in their order, as the other methods tell them. */
    private static long hashOfWhatIsRead(BridgedCatalogs x, int stack, int capacity, int step) {
        List<Integer> values = new ArrayList<>(List.of(stack, capacity, step));
        values.add(x.nodes());
        for (int node = 0; node < x.nodes(); node++) {
            for (int what = 0; what <= 8; what++) {
                values.add(x.node(node, what));
            }
            for (int index = 0; index < x.node(node, 5); index++) {
                values.add(x.baseKey(node, index));
            }
            for (int index = 0; index < x.node(node, 7); index++) {
                values.add(x.bufferKey(node, index));
            }
            for (int index = 0; index < x.node(node, 8); index++) {
                values.add(x.entry(node, index, 0));
                values.add(x.entry(node, index, 1));
                for (int to = OWN; to <= RIGHT; to++) {
                    values.add(x.bridge(node, index, to));
                }
            }
            values.add(x.worst(node));
        }
        for (int what = 0; what <= 6; what++) {
            values.add(x.count(what));
        }
        return unbounded(values).longValue();
    }
}
