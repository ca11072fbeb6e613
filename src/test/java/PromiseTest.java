import java.util.function.Supplier;

/** Each promise of the document: ordinary inputs, its edges and wrong inputs, told by hand. */
public final class PromiseTest {
    private static final int NONE = BridgedCatalogs.NONE;
    private static final int OWN = BridgedCatalogs.OWN;
    private static final int LEFT = BridgedCatalogs.LEFT;
    private static final int RIGHT = BridgedCatalogs.RIGHT;
    private static final int LOW = Integer.MIN_VALUE;
    private static final int HIGH = Integer.MAX_VALUE;

    private static final Check check = new Check("PromiseTest");

    public static void main(String[] arguments) {
        newObject();
        addNode();
        addNodeBuildsLists();
        add();
        addRebuilds();
        remove();
        removeRebuilds();
        addSeries();
        addSeriesEnds();
        setSizes();
        rebuild();
        rebuildAll();
        equalKeys();
        search();
        probes();
        plainProbes();
        place();
        leastAndNearest();
        worst();
        worstBehindAndBefore();
        worstForAnyX();
        worstInSmallTrees();
        nodesAndNode();
        keyOfCatalog();
        baseAndBuffer();
        entry();
        bridge();
        count();
        undo();
        undoneNodes();
        undoable();
        notUndoable();
        digest();
        fullest();
        check.end();
    }

    private static void newObject() {
        BridgedCatalogs x = new BridgedCatalogs();
        check.due(1, x, "nodes");
        check.nodeValues(x, 0, NONE, NONE, NONE, 0, 0, 0, 0, 0, 0);
        for (int what = 0; what <= 6; what++) {
            check.due(0, x, "count", what);
        }
        for (int to = OWN; to <= RIGHT; to++) {
            check.bridges(x, 0, to, 0);
        }
        check.badState(x, "undo");
        check.due(42, x, "setSizes", 4, 2);
    }

    private static void addNode() {
        BridgedCatalogs x = new BridgedCatalogs();
        check.due(1, x, "addNode", 0, RIGHT);
        check.due(2, x, "addNode", 0, LEFT);
        check.due(3, x, "addNode", 1, LEFT);
        check.due(2, x, "node", 0, 1);
        check.due(1, x, "node", 0, 2);
        check.due(1, x, "node", 3, 0);
        check.due(2, x, "node", 3, 3);
        check.badState(x, "addNode", 0, RIGHT);
        check.badState(x, "addNode", 0, LEFT);
        check.outOfBounds(x, "addNode", 4, LEFT);
        check.outOfBounds(x, "addNode", -1, 7);
        check.outOfBounds(x, "addNode", HIGH, LEFT);
        check.badArgument(x, "addNode", 0, OWN);
        check.badArgument(x, "addNode", 0, 3);
        check.badArgument(x, "addNode", 0, LOW);
        for (int node = 3; node < 14; node++) {
            check.due(node + 1, x, "addNode", node, LEFT);
        }
        check.due(15, x, "nodes");
        check.due(13, x, "node", 14, 3);
        check.badState(x, "addNode", 14, LEFT);
        check.outOfBounds(x, "addNode", 15, LEFT);
        check.badArgument(x, "addNode", 14, 0);
    }

    private static void addNodeBuildsLists() {
        BridgedCatalogs x = Samples.threeNodes();
        x.add(1, 500);
        x.remove(0, 42);
        x.setSizes(4, 3);
        check.due(14, x, "count", 2);
        check.due(41, x, "count", 3);
        check.due(3, x, "addNode", 1, LEFT);
        check.due(17, x, "count", 2);
        check.due(4, x, "count", 4);
        // Node 1 takes each third entry of node 2 now, and the root each third of node 1.
        check.entries(x, 3);
        check.entries(x, 1, 150, 302, 350, 550, 602, 750);
        check.entries(x, 0, 120, 351, 420, 720, 751, 1020);
        check.due(53, x, "count", 3);
        check.rows(x, "bufferKey", 1, 500);
        check.rows(x, "baseKey", 0, 12, 10042, 72, 102);
        check.entries(x, 2, 100, 200, 300, 400, 500, 600, 700, 800);
    }

    private static void add() {
        BridgedCatalogs x = new BridgedCatalogs();
        check.due(1, x, "add", 0, 9999);
        check.due(1, x, "add", 0, 0);
        check.due(0, x, "add", 0, 9999);
        check.rows(x, "bufferKey", 0, 9999, 0);
        check.outOfBounds(x, "add", 1, 5);
        check.outOfBounds(x, "add", -1, -1);
        check.badArgument(x, "add", 0, -1);
        check.badArgument(x, "add", 0, 10000);
        check.badArgument(x, "add", 0, HIGH);
        x = Samples.oneBase(24);
        check.badState(x, "add", 0, 5);
        check.due(0, x, "add", 0, 240);
        check.badArgument(x, "add", 0, -5);
        check.outOfBounds(x, "add", 2, 5);
        check.due(1, x, "remove", 0, 240);
        check.due(1, x, "add", 0, 240);
        check.due(0, x, "node", 0, 6);
        check.due(0, x, "node", 0, 7);
        check.due(1, x, "remove", 0, 240);
        check.due(1, x, "add", 0, 5);
        check.badState(x, "add", 0, 240);
    }

    private static void addRebuilds() {
        BridgedCatalogs x = new BridgedCatalogs();
        x.setSizes(8, 2);
        for (int key = 7; key >= 1; key--) {
            check.due(1, x, "add", 0, key);
        }
        check.due(7, x, "node", 0, 7);
        check.entries(x, 0);
        x.setSizes(3, 2);
        check.due(7, x, "node", 0, 7);
        check.due(0, x, "add", 0, 7);
        check.due(0, x, "count", 4);
        check.due(1, x, "add", 0, 9);
        check.due(1, x, "count", 4);
        check.rows(x, "baseKey", 0, 1, 2, 3, 4, 5, 6, 7, 9);
        check.rows(x, "bufferKey", 0);
        x.setSizes(8, 2);
        x.remove(0, 4);
        x.add(0, 20);
        x.setSizes(1, 2);
        // The mark is taken away, and the buffer, though as long as the capacity, stays.
        check.due(1, x, "add", 0, 4);
        check.due(1, x, "node", 0, 7);
        check.due(1, x, "add", 0, 21);
        check.rows(x, "baseKey", 0, 1, 2, 3, 4, 5, 6, 7, 9, 20, 21);
        check.due(1, x, "add", 0, 22);
        check.due(3, x, "count", 4);
    }

    private static void remove() {
        BridgedCatalogs x = Samples.oneBase(5);
        x.add(0, 7);
        x.add(0, 6);
        x.add(0, 8);
        check.due(1, x, "remove", 0, 6);
        check.rows(x, "bufferKey", 0, 7, 8);
        check.due(0, x, "remove", 0, 6);
        check.due(1, x, "remove", 0, 30);
        check.due(0, x, "remove", 0, 30);
        check.due(0, x, "remove", 0, 9999);
        check.rows(x, "baseKey", 0, 10, 20, 10030, 40, 50);
        check.due(6, x, "node", 0, 4);
        // The list keeps the marked key.
        check.due(5, x, "node", 0, 8);
        check.outOfBounds(x, "remove", 1, 10);
        check.outOfBounds(x, "remove", -1, 10000);
        check.badArgument(x, "remove", 0, 10000);
        check.badArgument(x, "remove", 0, -1);
        check.badArgument(x, "remove", 0, LOW);
    }

    private static void removeRebuilds() {
        BridgedCatalogs x = Samples.oneBase(4);
        x.add(0, 15);
        int before = x.count(4);
        check.due(1, x, "remove", 0, 10);
        check.due(1, x, "remove", 0, 40);
        check.due(2, x, "node", 0, 6);
        check.due(before, x, "count", 4);
        check.due(1, x, "remove", 0, 20);
        check.due(before + 1, x, "count", 4);
        check.rows(x, "baseKey", 0, 15, 30);
        check.rows(x, "bufferKey", 0);
        check.entries(x, 0, 150, 300);
        check.due(0, x, "node", 0, 6);
        check.due(2, x, "node", 0, 4);
        x = Samples.oneBase(1);
        check.due(1, x, "remove", 0, 10);
        check.due(0, x, "node", 0, 5);
        x = Samples.oneBase(5);
        x.remove(0, 10);
        x.remove(0, 20);
        check.due(2, x, "node", 0, 6);
        x.remove(0, 30);
        check.rows(x, "baseKey", 0, 40, 50);
    }

    private static void addSeries() {
        BridgedCatalogs x = new BridgedCatalogs();
        check.due(3, x, "addSeries", 0, 5, 10, 3);
        check.rows(x, "bufferKey", 0, 5, 15, 25);
        // 15 and 25 are passed over, and are two of the four keys of the series.
        check.due(2, x, "addSeries", 0, 15, 10, 4);
        check.rows(x, "baseKey", 0, 5, 15, 25, 35);
        check.rows(x, "bufferKey", 0, 45);
        check.due(1, x, "count", 4);
        x.remove(0, 15);
        check.due(1, x, "addSeries", 0, 15, 999, 1);
        check.rows(x, "baseKey", 0, 5, 15, 25, 35);
        check.due(0, x, "addSeries", 0, 5, 10, 5);
        check.outOfBounds(x, "addSeries", 1, 5, 1, 1);
        check.outOfBounds(x, "addSeries", -1, -1, 0, 0);
        int[][] wrong = {{-1, 1, 1}, {10000, 1, 1}, {0, 0, 1}, {0, 1000, 1}, {0, 1, 0},
            {0, 1, 25}, {0, LOW, 1}, {0, 1, HIGH}};
        for (int[] bad : wrong) {
            check.badArgument(x, "addSeries", 0, bad[0], bad[1], bad[2]);
        }
    }

    private static void addSeriesEnds() {
        BridgedCatalogs x = new BridgedCatalogs();
        check.due(3, x, "addSeries", 0, 8001, 999, 24);
        check.rows(x, "key", 0, 8001, 9000, 9999);
        check.due(1, x, "addSeries", 0, 9998, 1, 24);
        check.due(20, x, "addSeries", 0, 1, 1, 24);
        check.due(24, x, "node", 0, 4);
        check.due(20, x, "key", 0, 19);
        check.due(0, x, "addSeries", 0, 100, 1, 1);
        check.due(6, x, "count", 4);
        x = new BridgedCatalogs();
        check.due(24, x, "addSeries", 0, 0, 1, 24);
        check.due(23, x, "key", 0, 23);
    }

    private static void setSizes() {
        BridgedCatalogs x = new BridgedCatalogs();
        check.due(42, x, "setSizes", 1, 5);
        check.due(15, x, "setSizes", 8, 2);
        check.due(82, x, "setSizes", 8, 3);
        int[][] wrong = {{0, 2}, {9, 2}, {1, 1}, {1, 6}, {LOW, 2}, {1, HIGH}};
        for (int[] bad : wrong) {
            check.badArgument(x, "setSizes", bad[0], bad[1]);
        }
        check.due(83, x, "setSizes", 1, 2);
        x.add(0, 5);
        check.due(1, x, "count", 4);
        // For what is done from now on: no list is built by it.
        x = Samples.threeNodes();
        x.setSizes(1, 5);
        check.due(14, x, "count", 2);
        check.due(8, x, "node", 1, 8);
    }

    private static void rebuild() {
        BridgedCatalogs x = Samples.threeNodes();
        x.add(2, 5);
        x.remove(2, 80);
        x.add(1, 3);
        x.remove(0, 42);
        check.due(24, x, "rebuild", 2);
        check.rows(x, "baseKey", 2, 5, 10, 20, 30, 40, 50, 60, 70);
        check.rows(x, "bufferKey", 2);
        check.entries(x, 1, 102, 150, 302, 350, 502, 550, 702, 750);
        check.rows(x, "bufferKey", 1, 3);
        check.rows(x, "baseKey", 0, 12, 10042, 72, 102);
        check.due(5, x, "count", 4);
        check.due(17, x, "count", 2);
        check.due(17, x, "rebuild", 1);
        check.due(7, x, "rebuild", 0);
        check.entries(x, 0, 101, 120, 301, 501, 701, 720, 1020);
        check.due(0, new BridgedCatalogs(), "rebuild", 0);
        check.outOfBounds(x, "rebuild", 3);
        check.outOfBounds(x, "rebuild", -1);
    }

    private static void rebuildAll() {
        BridgedCatalogs x = Samples.threeNodes();
        x.add(2, 5);
        x.add(1, 3);
        x.remove(0, 42);
        check.due(9 + 9 + 7, x, "rebuildAll");
        // Three lists for node 2, two for node 1, one for the root.
        check.due(14 + 6, x, "count", 2);
        check.due(4 + 3, x, "count", 4);
        // 9 + 8 + 8 for node 2, 9 + 8 for node 1, 7 for the root.
        check.due(41 + 25 + 17 + 7, x, "count", 3);
        check.entries(x, 1, 30, 102, 150, 302, 350, 502, 550, 702, 750);
        check.entries(x, 0, 101, 120, 301, 501, 701, 720, 1020);
        check.due(0, new BridgedCatalogs(), "rebuildAll");
    }

    private static void equalKeys() {
        BridgedCatalogs x = new BridgedCatalogs();
        x.addNode(0, LEFT);
        x.addNode(0, RIGHT);
        x.setSizes(4, 2);
        for (int node = 2; node >= 0; node--) {
            x.addSeries(node, 10, 10, 4);
        }
        check.entries(x, 0, 100, 200, 201, 202, 300, 400, 401, 402);
        check.bridges(x, 0, OWN, 0, 1, 1, 1, 2, 3, 3, 3, 4);
        check.bridges(x, 0, LEFT, 0, 1, 1, 1, 2, 3, 3, 3, 4);
        check.bridges(x, 0, RIGHT, 0, 1, 1, 1, 2, 3, 3, 3, 4);
        check.due(1, x, "place", 0, 20);
        check.due(1, x, "place", 2, 20);
        check.due(20, x, "search", 2, 20);
    }

    private static void search() {
        BridgedCatalogs x = Samples.threeNodes();
        check.due(40, x, "search", 2, 35);
        check.due(1, x, "count", 0);
        check.due(6, x, "count", 1);
        check.due(NONE, x, "search", 2, 81);
        check.due(80, x, "search", 2, 80);
        check.due(NONE, x, "search", 2, 10000);
        check.due(10, x, "search", 2, 0);
        check.due(5, x, "count", 0);
        x.add(2, 9999);
        x.add(2, 78);
        check.due(9999, x, "search", 2, 81);
        check.due(9999, x, "search", 2, 9999);
        check.due(78, x, "search", 2, 71);
        check.due(80, x, "search", 2, 79);
        check.due(NONE, new BridgedCatalogs(), "search", 0, 0);
        check.outOfBounds(x, "search", 3, 0);
        check.outOfBounds(x, "search", -1, -1);
        check.badArgument(x, "search", 0, -1);
        check.badArgument(x, "search", 0, 10001);
        check.badArgument(x, "search", 0, LOW);
    }

    private static void probes() {
        BridgedCatalogs x = Samples.threeNodes();
        // Root: 4 by halving 8 entries; each further node: 1 that ends it at once.
        check.due(6, x, "probes", 2, 35);
        // Root: 4; node 1 starts at place 0, without a probe; node 2 goes back from 1 to 0.
        check.due(4, x, "probes", 0, 0);
        check.due(4, x, "probes", 1, 0);
        check.due(5, x, "probes", 2, 0);
        x.add(1, 500);
        x.add(1, 501);
        check.due(8, x, "probes", 2, 35);
        // The keys of node 2 from 10 on: 4 marks before 50.
        x.remove(2, 10);
        x.remove(2, 20);
        x.remove(2, 30);
        x.remove(2, 40);
        check.due(4 + 2 + 1 + 4, x, "probes", 2, 0);
        check.due(50, x, "leastOnPath", 2, 43);
        check.due(0, x, "count", 0);
        check.due(0, x, "count", 1);
        check.due(0, new BridgedCatalogs(), "probes", 0, 10000);
        check.outOfBounds(x, "probes", 3, -1);
        check.badArgument(x, "probes", 0, -1);
        check.badArgument(x, "probes", 2, 10001);
    }

    private static void plainProbes() {
        BridgedCatalogs x = Samples.threeNodes();
        check.due(9, x, "plainProbes", 2, 35);
        // Halving 4 keys: 3 below the first two, 2 behind; halving 8 keys: 4, or 3 behind.
        check.due(3, x, "plainProbes", 0, 0);
        check.due(2, x, "plainProbes", 0, 103);
        check.due(3 + 3 + 4, x, "plainProbes", 2, 0);
        x.add(1, 500);
        x.remove(2, 10);
        x.remove(2, 20);
        check.due(3 + 3 + 1 + 4 + 2, x, "plainProbes", 2, 0);
        check.due(0, x, "count", 1);
        check.due(0, new BridgedCatalogs(), "plainProbes", 0, 0);
        check.outOfBounds(x, "plainProbes", 3, 10001);
        check.badArgument(x, "plainProbes", 0, 10001);
        check.badArgument(x, "plainProbes", 0, -1);
    }

    private static void place() {
        BridgedCatalogs x = Samples.threeNodes();
        check.due(2, x, "place", 0, 35);
        check.due(2, x, "place", 1, 35);
        check.due(3, x, "place", 2, 35);
        check.due(8, x, "place", 2, 10000);
        check.due(0, x, "place", 2, 10);
        check.due(1, x, "place", 2, 11);
        check.due(0, new BridgedCatalogs(), "place", 0, 10000);
        check.outOfBounds(x, "place", 3, -1);
        check.badArgument(x, "place", 1, 10001);
        check.badArgument(x, "place", 1, -1);
    }

    private static void leastAndNearest() {
        BridgedCatalogs x = Samples.threeNodes();
        check.due(35, x, "leastOnPath", 2, 35);
        check.due(1, x, "nearestOnPath", 2, 35);
        check.due(42, x, "leastOnPath", 0, 35);
        check.due(0, x, "nearestOnPath", 0, 35);
        check.due(40, x, "leastOnPath", 2, 36);
        check.due(2, x, "nearestOnPath", 2, 36);
        check.due(102, x, "leastOnPath", 2, 81);
        check.due(0, x, "nearestOnPath", 2, 81);
        check.due(NONE, x, "leastOnPath", 2, 103);
        check.due(NONE, x, "nearestOnPath", 2, 103);
        // The same key in all three: the root is the nearest, then node 1.
        x.add(2, 200);
        x.add(1, 200);
        check.due(1, x, "nearestOnPath", 2, 150);
        x.add(0, 200);
        check.due(0, x, "nearestOnPath", 2, 150);
        check.due(200, x, "leastOnPath", 2, 150);
        x.add(2, 0);
        check.due(0, x, "leastOnPath", 2, 0);
        check.due(2, x, "nearestOnPath", 2, 0);
        for (String name : new String[] {"leastOnPath", "nearestOnPath"}) {
            check.outOfBounds(x, name, 3, 0);
            check.outOfBounds(x, name, -1, -1);
            check.badArgument(x, name, 0, -1);
            check.badArgument(x, name, 2, 10001);
        }
    }

    private static void worst() {
        BridgedCatalogs x = Samples.threeNodes();
        check.due(4, x, "worst", 0);
        check.due(7, x, "worst", 2);
        x.add(0, 1);
        x.add(0, 2);
        check.due(9, x, "worst", 2);
        check.due(0, new BridgedCatalogs(), "worst", 0);
        check.outOfBounds(x, "worst", 3);
        check.outOfBounds(x, "worst", -1);
    }

    /** Trees where only an x behind all keys, also the greatest x, or only x = 0, is the worst. */
    private static void worstBehindAndBefore() {
        BridgedCatalogs x;
        for (int last : new int[] {150, 9999}) {
            x = new BridgedCatalogs();
            x.setSizes(1, 2);
            x.addNode(0, LEFT);
            x.addNode(1, LEFT);
            x.add(0, last - 50);
            x.add(1, last);
            x.add(2, last);
            check.due(1, x, "probes", 2, last - 50);
            check.due(2, x, "probes", 2, last);
            check.due(3, x, "probes", 2, last + 1);
            check.due(3, x, "worst", 2);
        }
        x = new BridgedCatalogs();
        x.setSizes(1, 2);
        x.addSeries(0, 0, 5, 2);
        x.remove(0, 0);
        check.due(3, x, "probes", 0, 0);
        check.due(2, x, "probes", 0, 1);
        check.due(3, x, "worst", 0);
    }

    private static void worstInSmallTrees() {
        for (int tree = 0; tree < 60; tree++) {
            int number = tree;
            worstIsOfAllX(() -> smallTree(number));
        }
    }

    private static BridgedCatalogs smallTree(int number) {
        BridgedCatalogs x = new BridgedCatalogs();
        x.setSizes(1 + number % 3, 2 + number % 2);
        x.addNode(0, LEFT);
        x.addNode(0, RIGHT);
        x.addNode(1, RIGHT);
        x.addNode(2, LEFT);
        x.addNode(1, LEFT);
        x.addNode(2, RIGHT);
        int seed = 1 + number;
        for (int i = 0; i < 60; i++) {
            seed = seed * 1103515245 + 12345;
            int draw = (seed >>> 16) % 1000;
            if (i % 5 == 4) {
                x.remove(draw % 7, Math.max(0, x.key(draw % 7, draw % 3)));
            } else {
                x.add(draw % 7, draw / 7);
            }
        }
        return x;
    }

    /** Long catalogs with some marks, and the worst x near the greatest one. */
    private static void worstForAnyX() {
        for (int shift = 0; shift < 3; shift++) {
            int moved = shift;
            worstIsOfAllX(() -> longCatalogs(moved));
        }
    }

    private static BridgedCatalogs longCatalogs(int shift) {
        BridgedCatalogs x = new BridgedCatalogs();
        x.addNode(0, RIGHT);
        x.addNode(0, LEFT);
        x.addNode(1, LEFT);
        x.addSeries(3, 9976 + shift, 1, 24);
        x.addSeries(2, 0, 999, 24);
        x.addSeries(1, 9000, 333, 24);
        x.addSeries(0, 9990 - shift, 1, 9);
        x.remove(3, 9999);
        x.remove(1, 9000);
        x.remove(0, 9992);
        return x;
    }

    /** A new object for each 400 of the x, as nothing is promised about more than 512 calls. */
    private static void worstIsOfAllX(Supplier<BridgedCatalogs> maker) {
        int nodes = maker.get().nodes();
        for (int node = 0; node < nodes; node++) {
            int most = 0;
            for (int from = 0; from <= 10000; from += 400) {
                BridgedCatalogs x = maker.get();
                for (int number = from; number < from + 400 && number <= 10000; number++) {
                    most = Math.max(most, x.probes(node, number));
                }
            }
            check.due(most, maker.get(), "worst", node);
        }
    }

    private static void nodesAndNode() {
        BridgedCatalogs x = Samples.threeNodes();
        x.add(1, 500);
        x.remove(1, 15);
        x.remove(1, 35);
        check.due(3, x, "nodes");
        check.nodeValues(x, 1, 0, NONE, 2, 1, 3, 4, 2, 1, 8);
        check.due(1, x, "node", 0, 1);
        check.due(NONE, x, "node", 0, 2);
        check.outOfBounds(x, "node", 3, 0);
        check.outOfBounds(x, "node", -1, 9);
        check.outOfBounds(x, "node", HIGH, 0);
        check.badArgument(x, "node", 0, 9);
        check.badArgument(x, "node", 0, -1);
    }

    private static void keyOfCatalog() {
        BridgedCatalogs x = Samples.oneBase(5);
        x.add(0, 35);
        x.add(0, 0);
        x.add(0, 9999);
        x.remove(0, 10);
        x.remove(0, 50);
        check.rows(x, "key", 0, 0, 20, 30, 35, 40, 9999);
        check.due(NONE, x, "key", 0, HIGH);
        check.outOfBounds(x, "key", 1, -1);
        check.outOfBounds(x, "key", -1, 0);
        check.badArgument(x, "key", 0, -1);
        check.badArgument(x, "key", 0, LOW);
    }

    private static void baseAndBuffer() {
        BridgedCatalogs x = new BridgedCatalogs();
        x.addSeries(0, 0, 9, 4);
        x.remove(0, 0);
        check.rows(x, "baseKey", 0, 10000, 9, 18, 27);
        x.add(0, 5);
        x.add(0, 3);
        check.rows(x, "bufferKey", 0, 5, 3);
        for (String name : new String[] {"baseKey", "bufferKey"}) {
            check.due(NONE, x, name, 0, HIGH);
            check.outOfBounds(x, name, 1, -1);
            check.outOfBounds(x, name, -1, 0);
            check.badArgument(x, name, 0, -1);
            check.badArgument(x, name, 0, LOW);
        }
    }

    private static void entry() {
        BridgedCatalogs x = Samples.threeNodes();
        check.entries(x, 0, 120, 201, 401, 420, 601, 720, 801, 1020);
        check.entries(x, 1, 150, 202, 350, 402, 550, 602, 750, 802);
        check.entries(x, 2, 100, 200, 300, 400, 500, 600, 700, 800);
        check.due(NONE, x, "entry", 0, 8, 0);
        check.due(NONE, x, "entry", 0, HIGH, 1);
        check.outOfBounds(x, "entry", 3, -1, 0);
        check.outOfBounds(x, "entry", -1, 0, 2);
        check.badArgument(x, "entry", 0, -1, 0);
        check.badArgument(x, "entry", 0, 0, 2);
        check.badArgument(x, "entry", 0, 0, -1);
        check.badArgument(x, "entry", 0, 100, 2);
        // Steps of 3, 4 and 5 take the entries with the numbers step - 1, 2 * step - 1, ..
        int[][] taken = {{302, 602}, {402, 802}, {502}};
        for (int step = 3; step <= 5; step++) {
            x = new BridgedCatalogs();
            x.addNode(0, RIGHT);
            x.setSizes(4, step);
            x.addSeries(1, 10, 10, 8);
            check.entries(x, 0, taken[step - 3]);
        }
    }

    private static void bridge() {
        BridgedCatalogs x = Samples.threeNodes();
        check.bridges(x, 0, OWN, 0, 1, 1, 1, 2, 2, 3, 3, 4);
        check.bridges(x, 0, LEFT, 0, 1, 3, 4, 5, 6, 7, 8, 8);
        check.bridges(x, 0, RIGHT, 0, 0, 0, 0, 0, 0, 0, 0, 0);
        check.bridges(x, 1, RIGHT, 1, 1, 3, 3, 5, 5, 7, 7, 8);
        check.bridges(x, 1, LEFT, 0, 0, 0, 0, 0, 0, 0, 0, 0);
        // Marked keys count as keys of the base.
        x.remove(0, 12);
        x.rebuild(2);
        check.bridges(x, 0, OWN, 0, 1, 1, 1, 2, 2, 3, 3, 4);
        check.outOfBounds(x, "bridge", 3, -1, 3);
        check.outOfBounds(x, "bridge", -1, 0, 0);
        check.badArgument(x, "bridge", 0, -1, 0);
        check.badArgument(x, "bridge", 0, HIGH, 0);
        check.badArgument(x, "bridge", 0, 0, 3);
        check.badArgument(x, "bridge", 0, 0, -1);
    }

    private static void count() {
        BridgedCatalogs x = Samples.threeNodes();
        x.search(2, 35);
        x.search(2, 81);
        x.search(0, 10000);
        x.probes(2, 35);
        x.add(1, 500);
        x.remove(0, 42);
        int[] counts = {3, 14, 14, 41, 4, 16, 24};
        for (int what = 0; what < counts.length; what++) {
            check.due(counts[what], x, "count", what);
        }
        check.badArgument(x, "count", 7);
        check.badArgument(x, "count", -1);
        check.badArgument(x, "count", LOW);
    }

    private static void undo() {
        BridgedCatalogs x = new BridgedCatalogs();
        for (int i = 0; i < 6; i++) {
            x.add(0, 10 * i);
        }
        check.due(3, x, "undo");
        check.rows(x, "key", 0, 0, 10, 20, 30, 40);
        check.due(2, x, "undo");
        check.due(0, x, "node", 0, 7);
        check.due(1, x, "undo");
        check.rows(x, "bufferKey", 0, 0, 10, 20);
        check.due(0, x, "count", 4);
        check.due(0, x, "undo");
        check.rows(x, "bufferKey", 0, 0, 10);
        check.badState(x, "undo");
        check.due(1, x, "add", 0, 77);
        check.due(0, x, "undo");
        check.rows(x, "bufferKey", 0, 0, 10);
        // Up and down over the end of the ring.
        x = Samples.threeNodes();
        for (int i = 0; i < 6; i++) {
            x.search(2, 10 * i);
        }
        check.due(3, x, "undo");
        check.due(5, x, "count", 0);
        x.search(2, 50);
        check.due(3, x, "undo");
        check.due(2, x, "undo");
        check.due(4, x, "count", 0);
    }

    /** A node that was undone leaves nothing to the one that takes its number. */
    private static void undoneNodes() {
        BridgedCatalogs x = new BridgedCatalogs();
        x.addNode(0, LEFT);
        x.addNode(1, LEFT);
        x.addNode(1, RIGHT);
        for (int left = 2; left >= 0; left--) {
            check.due(left, x, "undo");
        }
        check.due(1, x, "nodes");
        check.due(NONE, x, "node", 0, 1);
        check.outOfBounds(x, "node", 1, 0);
        check.due(1, x, "addNode", 0, RIGHT);
        check.due(NONE, x, "node", 1, 1);
        check.due(NONE, x, "node", 1, 2);
        check.due(0, x, "undo");
        check.due(NONE, x, "node", 0, 2);
        x.setSizes(3, 2);
        x.addNode(0, LEFT);
        x.addSeries(1, 10, 10, 4);
        x.remove(1, 10);
        check.due(4 - 1, x, "undo");
        check.due(4 - 2, x, "undo");
        check.due(4 - 3, x, "undo");
        check.due(1, x, "addNode", 0, RIGHT);
        check.nodeValues(x, 1, 0, NONE, NONE, 1, 0, 0, 0, 0, 0);
        check.rows(x, "baseKey", 1);
        check.rows(x, "bufferKey", 1);
    }

    /** What is undone is the whole state: sizes, tree, bases, marks, buffers, lists, counts. */
    private static void undoable() {
        String[] names = {"addNode", "addNode", "addNode", "add", "add", "add", "remove", "remove",
            "remove", "addSeries", "addSeries", "addSeries", "setSizes", "setSizes", "rebuild",
            "rebuildAll", "search"};
        int[][] arguments = {{2, LEFT}, {2, RIGHT}, {0, RIGHT}, {1, 7}, {1, 15}, {1, 601}, {2, 20},
            {2, 21}, {1, 600}, {0, 1, 1, 24}, {0, 12, 30, 4}, {2, 1, 2, 4}, {1, 5}, {4, 2}, {2},
            {}, {2, 35}};
        for (int i = 0; i < names.length; i++) {
            BridgedCatalogs x = Samples.threeNodes();
            x.add(1, 600);
            x.remove(2, 80);
            x.remove(0, 102);
            String before = Check.answer(x, "digest");
            // The stack is full; so it is after the call, and one shorter after undo.
            Check.answer(x, names[i], arguments[i]);
            check.due(3, x, "undo");
            check.due(42, x, "setSizes", 4, 2);
            check.same("digest after undo of " + names[i], Check.answer(x, "digest"), before);
        }
    }

    private static void notUndoable() {
        BridgedCatalogs x = Samples.threeNodes();
        x.undo();
        x.undo();
        String before = Check.answer(x, "digest");
        for (String name : new String[] {"probes", "plainProbes", "place", "leastOnPath",
            "nearestOnPath", "node", "key", "baseKey", "bufferKey"}) {
            Check.answer(x, name, 2, 5);
        }
        Check.answer(x, "worst", 2);
        Check.answer(x, "nodes");
        Check.answer(x, "count", 1);
        Check.answer(x, "entry", 1, 1, 1);
        Check.answer(x, "bridge", 1, 1, 1);
        check.same("digest after reading", Check.answer(x, "digest"), before);
        check.due(1, x, "undo");
    }

    private static void digest() {
        check.due(hash(0, 4, 2, 1, -1, -1, -1, 0, 0, 0, 0, 0, 0, 0, 0, 0, 0, 0, 0, 0, 0),
            new BridgedCatalogs(), "digest");
        BridgedCatalogs x = new BridgedCatalogs();
        x.addNode(0, LEFT);
        x.addSeries(1, 10, 10, 4);
        x.addSeries(0, 20, 30, 4);
        x.add(0, 5);
        x.remove(1, 10);
        x.search(1, 15);
        check.due(hash(4, 4, 2, 2,
            -1, 1, -1, 0, 5, 4, 0, 1, 6, 20, 50, 80, 110, 5,
            20, 0, 0, 1, 0, 20, 1, 0, 1, 0, 40, 1, 1, 3, 0,
            50, 0, 1, 4, 0, 80, 0, 2, 4, 0, 110, 0, 3, 4, 0,
            4, // worst(0): 3 by halving 6 entries, 1 in the buffer
            0, -1, -1, 1, 3, 4, 1, 0, 4, 10010, 20, 30, 40,
            10, 0, 0, 0, 0, 20, 0, 1, 0, 0, 30, 0, 2, 0, 0, 40, 0, 3, 0, 0,
            6, // worst(1): for x up to 10 another 1 ends at place 0 after 1, and passes 1 mark
            1, 5, 2 + 2 + 1, 4 + 2 + 6, 2, 8, 10), x, "digest");
    }

    private static long hash(long... values) {
        long h = 18592;
        for (long value : values) {
            h = 31 * h + value;
        }
        return h;
    }

    /** The full tree with full catalogs: the longest lists that there are. */
    private static void fullest() {
        BridgedCatalogs x = Samples.fullLevels();
        for (int i = 14; i >= 0; i--) {
            check.due(24, x, "addSeries", i, i, 300, 24);
        }
        check.due(96 + 2 * 72 + 4 * 48 + 8 * 24, x, "rebuildAll");
        check.due(96, x, "node", 0, 8);
        check.bridges(x, 14, OWN, 0, 1, 2, 3, 4, 5, 6, 7, 8, 9, 10, 11, 12, 13, 14, 15, 16, 17, 18,
            19, 20, 21, 22, 23, 24);
        check.due(24, x, "bridge", 0, 96, OWN);
        check.due(72, x, "bridge", 0, 96, LEFT);
        check.due(72, x, "bridge", 0, 96, RIGHT);
        check.due(24, x, "place", 14, 10000);
        check.due(6914, x, "search", 14, 6615);
    }
}
