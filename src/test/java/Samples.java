/** Objects in states that several tests begin with, each made by a few calls. */
final class Samples {
    private static final int LEFT = BridgedCatalogs.LEFT;
    private static final int RIGHT = BridgedCatalogs.RIGHT;

    private Samples() { }

    /** Root, its left child 1 and the right child 2 of this one, as in the first shared run. */
    static BridgedCatalogs threeNodes() {
        BridgedCatalogs x = new BridgedCatalogs();
        x.addNode(0, LEFT);
        x.addNode(1, RIGHT);
        x.addSeries(2, 10, 10, 8);
        x.addSeries(1, 15, 20, 4);
        x.addSeries(0, 12, 30, 4);
        return x;
    }

    /** One node with this many keys 10, 20, .. in its base, and nothing in its buffer. */
    static BridgedCatalogs oneBase(int many) {
        BridgedCatalogs x = new BridgedCatalogs();
        x.addSeries(0, 10, 10, many);
        x.rebuild(0);
        return x;
    }

    /** One node with at most 7 keys 10, 20, .. that wait in its buffer, of the capacity 8. */
    static BridgedCatalogs waiting(int many) {
        BridgedCatalogs x = new BridgedCatalogs();
        x.setSizes(8, 2);
        for (int i = 1; i <= many; i++) {
            x.add(0, 10 * i);
        }
        return x;
    }

    /** Three nodes with marks and buffers, and a full undo stack. */
    static BridgedCatalogs busy() {
        BridgedCatalogs x = threeNodes();
        x.add(1, 500);
        x.remove(1, 35);
        x.remove(0, 102);
        x.add(2, 5);
        x.search(2, 35);
        return x;
    }

    /** Each node is the left child of the one before it. */
    static BridgedCatalogs chain(int nodes) {
        BridgedCatalogs x = new BridgedCatalogs();
        for (int i = 1; i < nodes; i++) {
            x.addNode(i - 1, LEFT);
        }
        return x;
    }

    /** The 15 nodes of four full levels, all of them empty. */
    static BridgedCatalogs fullLevels() {
        BridgedCatalogs x = new BridgedCatalogs();
        for (int i = 1; i < 15; i++) {
            x.addNode((i - 1) / 2, i % 2 == 1 ? LEFT : RIGHT);
        }
        return x;
    }

    /** 15 nodes with 24 keys each; a key of the root is marked, and another waits in its buffer. */
    static BridgedCatalogs fullTree() {
        BridgedCatalogs x = fullLevels();
        for (int i = 14; i >= 0; i--) {
            x.addSeries(i, i, 300, 24);
        }
        x.remove(0, 300);
        x.add(0, 9999);
        return x;
    }
}
