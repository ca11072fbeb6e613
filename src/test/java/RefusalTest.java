import java.util.function.Supplier;

/**
 * Every call that is refused, in an empty, a busy and a full object: which exception comes where
 * several apply, and that the state and the saved states stay as they were.
 */
public final class RefusalTest {
    private static final int NONE = BridgedCatalogs.NONE;
    private static final int LEFT = BridgedCatalogs.LEFT;
    private static final int RIGHT = BridgedCatalogs.RIGHT;

    private static final Check check = new Check("RefusalTest");

    /** A method, arguments behind the node that are in range, and for each of them two outside. */
    private record Face(String name, boolean hasNode, int[] usual, int[][] wrong) { }

    private static final int[] KEY = {-1, 10000};
    private static final int[] GOAL = {-1, 10001};
    private static final int[] INDEX = {-1, Integer.MIN_VALUE};
    private static final Face[] FACES = {
        ofNode("addNode", usual(RIGHT), new int[] {0, 3}),
        ofNode("add", usual(7), KEY),
        ofNode("remove", usual(7), KEY),
        ofNode("addSeries", usual(7, 1, 1), KEY, new int[] {0, 1000}, new int[] {0, 25}),
        // Other sizes than those that are set, so that it shows if one of them is taken.
        new Face("setSizes", false, usual(3, 5), new int[][] {{0, 9}, {1, 6}}),
        ofNode("rebuild", usual()),
        ofNode("search", usual(7), GOAL),
        ofNode("probes", usual(7), GOAL),
        ofNode("plainProbes", usual(7), GOAL),
        ofNode("place", usual(7), GOAL),
        ofNode("leastOnPath", usual(7), GOAL),
        ofNode("nearestOnPath", usual(7), GOAL),
        ofNode("worst", usual()),
        ofNode("node", usual(0), new int[] {-1, 9}),
        ofNode("key", usual(0), INDEX),
        ofNode("baseKey", usual(0), INDEX),
        ofNode("bufferKey", usual(0), INDEX),
        ofNode("entry", usual(0, 0), INDEX, new int[] {-1, 2}),
        // There are not so many entries, but NONE is returned only if no exception applies.
        ofNode("entry", usual(1000, 1), INDEX, new int[] {-1, 2}),
        ofNode("bridge", usual(0, 0), new int[] {-1, 1000}, new int[] {-1, 3}),
        new Face("count", false, usual(0), new int[][] {{-1, 7}}),
    };

    public static void main(String[] arguments) {
        outOfRange(BridgedCatalogs::new, 1);
        outOfRange(Samples::busy, 3);
        outOfRange(Samples::fullTree, 15);
        sideIsTaken();
        noRoomForNodes();
        noRoomForKeys();
        nothingToUndo();
        noneOnlyWithoutException();
        check.end();
    }

    private static Face ofNode(String name, int[] usual, int[]... wrong) {
        return new Face(name, true, usual, wrong);
    }

    private static int[] usual(int... values) {
        return values;
    }

    private static void outOfRange(Supplier<?> maker, int nodes) {
        for (Face face : FACES) {
            if (!face.hasNode) {
                combine(maker, face, face.usual.clone(), 0, false);
                continue;
            }
            for (int node : new int[] {-1, nodes, nodes - 1}) {
                int[] arguments = new int[face.usual.length + 1];
                arguments[0] = node;
                System.arraycopy(face.usual, 0, arguments, 1, face.usual.length);
                combine(maker, face, arguments, 1, false);
            }
        }
    }

    /** Each argument from this one on takes its usual value and both of its wrong ones. */
    private static void combine(Supplier<?> maker, Face face, int[] arguments, int from,
            boolean wrong) {
        if (from == arguments.length) {
            refused(maker, face, arguments, wrong);
            return;
        }
        int first = face.hasNode ? 1 : 0;
        combine(maker, face, arguments, from + 1, wrong);
        for (int value : face.wrong[from - first]) {
            int[] changed = arguments.clone();
            changed[from] = value;
            combine(maker, face, changed, from + 1, true);
        }
    }

    private static void refused(Supplier<?> maker, Face face, int[] arguments, boolean wrong) {
        int nodes = Integer.parseInt(Check.answer(maker.get(), "nodes"));
        if (face.hasNode && (arguments[0] < 0 || arguments[0] >= nodes)) {
            check.refused(maker, Check.BOUNDS, face.name, arguments);
        } else if (wrong) {
            check.refused(maker, Check.ARGUMENT, face.name, arguments);
        }
    }

    private static void sideIsTaken() {
        check.refused(Samples::busy, Check.STATE, "addNode", 0, LEFT);
        check.refused(Samples::busy, Check.STATE, "addNode", 1, RIGHT);
        check.due(3, Samples.busy(), "addNode", 0, RIGHT);
        check.due(3, Samples.busy(), "addNode", 1, LEFT);
    }

    private static void noRoomForNodes() {
        for (int parent = 0; parent < 15; parent++) {
            for (int side = LEFT; side <= RIGHT; side++) {
                check.refused(Samples::fullTree, Check.STATE, "addNode", parent, side);
                check.refused(() -> Samples.chain(15), Check.STATE, "addNode", parent, side);
            }
        }
        BridgedCatalogs x = Samples.chain(14);
        check.due(14, x, "addNode", 13, RIGHT);
        check.badState(x, "addNode", 14, LEFT);
        check.due(3, x, "undo");
        check.due(14, x, "addNode", 0, RIGHT);
    }

    private static void noRoomForKeys() {
        check.refused(() -> Samples.oneBase(24), Check.STATE, "add", 0, 0);
        check.refused(() -> Samples.oneBase(24), Check.STATE, "add", 0, 9999);
        check.refused(RefusalTest::someWait, Check.STATE, "add", 0, 5);
        check.refused(Samples::fullTree, Check.STATE, "add", 14, 5);
        // A marked key is not in the catalog either.
        check.due(10300, Samples.fullTree(), "baseKey", 0, 1);
        check.refused(Samples::fullTree, Check.STATE, "add", 0, 300);
        // With 23 keys there is room, and keys that are in the catalog need none.
        check.due(1, Samples.oneBase(23), "add", 0, 0);
        check.due(0, Samples.oneBase(24), "add", 0, 10);
        check.due(0, someWait(), "add", 0, 3);
        check.due(0, Samples.fullTree(), "add", 0, 9999);
        check.due(0, Samples.oneBase(24), "addSeries", 0, 0, 1, 24);
    }

    /** 24 keys: 21 in the base, and 3 in the buffer. */
    private static BridgedCatalogs someWait() {
        BridgedCatalogs x = Samples.oneBase(21);
        x.addSeries(0, 1, 1, 3);
        return x;
    }

    private static void nothingToUndo() {
        check.refused(BridgedCatalogs::new, Check.STATE, "undo");
        BridgedCatalogs x = Samples.busy();
        for (int left = 3; left >= 0; left--) {
            check.due(left, x, "undo");
        }
        check.badState(x, "undo");
        check.badState(x, "undo");
    }

    /** Where NONE is the answer, an exception comes before it. */
    private static void noneOnlyWithoutException() {
        String[] ofGoal = {"search", "leastOnPath", "nearestOnPath"};
        for (String name : ofGoal) {
            check.due(NONE, new BridgedCatalogs(), name, 0, 10000);
            check.refused(BridgedCatalogs::new, Check.ARGUMENT, name, 0, 10001);
            check.refused(BridgedCatalogs::new, Check.BOUNDS, name, 1, 10000);
        }
        for (String name : new String[] {"key", "baseKey", "bufferKey"}) {
            check.due(NONE, new BridgedCatalogs(), name, 0, 0);
            check.refused(BridgedCatalogs::new, Check.ARGUMENT, name, 0, -1);
            check.refused(BridgedCatalogs::new, Check.BOUNDS, name, 1, 0);
        }
        check.due(NONE, new BridgedCatalogs(), "entry", 0, 0, 1);
        check.refused(BridgedCatalogs::new, Check.ARGUMENT, "entry", 0, 0, 2);
        check.refused(BridgedCatalogs::new, Check.BOUNDS, "entry", 1, 0, 1);
        check.due(NONE, new BridgedCatalogs(), "node", 0, 0);
        check.refused(BridgedCatalogs::new, Check.ARGUMENT, "node", 0, -1);
        check.refused(BridgedCatalogs::new, Check.BOUNDS, "node", 1, 0);
    }
}
