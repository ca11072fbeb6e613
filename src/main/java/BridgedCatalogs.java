/**
 * Sorted catalogs at the nodes of a binary tree, searched along paths from the root.
 *
 * The face tests the arguments, saves the state where a call is undoable, and leaves the work to
 * the classes inside: Row (a bounded row of numbers), Listing (the list of a node with its
 * bridges), Catalog (a node), Tree (the whole state), Walk (a search along a path) and History
 * (the undo stack).
 */
public final class BridgedCatalogs {
    public static final int NONE = -1;
    public static final int OWN = 0, LEFT = 1, RIGHT = 2;

    private static final int MOST_NODES = 15;
    private static final int MOST_KEYS = 24;
    private static final int MOST_CAPACITY = 8;
    private static final int LEAST_STEP = 2;
    private static final int MOST_STEP = 5;
    private static final int MOST_DIFFERENCE = 999;
    private static final int MOST_UNDO = 4;
    private static final int FIRST_CAPACITY = 4;
    private static final int FIRST_STEP = 2;
    // Behind every key: the greatest x that may be asked for, and what baseKey adds for a mark.
    private static final int BEYOND_KEYS = 10000;
    // At step 2 a node gives its ancestor d levels up at most 24 / 2^d entries; the full tree of
    // four levels gives the root the most of them, 24 from each level.
    private static final int MOST_ENTRIES = 96;

    private final Tree tree;
    private final Walk walk;
    private final History history;

    public BridgedCatalogs() {
        tree = new Tree();
        walk = new Walk();
        history = new History();
    }

    // ---- tree and catalogs

    public int addNode(int parent, int side)
            throws IndexOutOfBoundsException, IllegalArgumentException, IllegalStateException {
        requireNode(parent);
        require(side == LEFT || side == RIGHT);
        if (tree.size == MOST_NODES || tree.at(parent).child(side) != NONE) {
            throw new IllegalStateException("no room for such a child");
        }
        history.save(tree);
        return tree.grow(parent, side);
    }

    public boolean add(int node, int key)
            throws IndexOutOfBoundsException, IllegalArgumentException, IllegalStateException {
        requireNode(node);
        requireKey(key);
        Catalog here = tree.at(node);
        if (!here.holds(key) && here.isFull()) {
            throw new IllegalStateException("the catalog is full");
        }
        history.save(tree);
        return tree.takeIn(node, key);
    }

    public boolean remove(int node, int key)
            throws IndexOutOfBoundsException, IllegalArgumentException {
        requireNode(node);
        requireKey(key);
        history.save(tree);
        return tree.drop(node, key);
    }

    public int addSeries(int node, int first, int difference, int many)
            throws IndexOutOfBoundsException, IllegalArgumentException {
        requireNode(node);
        requireKey(first);
        require(difference >= 1 && difference <= MOST_DIFFERENCE);
        require(many >= 1 && many <= MOST_KEYS);
        history.save(tree);
        int key = first;
        int taken = 0;
        for (int i = 0; i < many && key < BEYOND_KEYS && !tree.at(node).isFull(); i++) {
            if (tree.takeIn(node, key)) {
                taken++;
            }
            key += difference;
        }
        return taken;
    }

    public int setSizes(int capacity, int step) throws IllegalArgumentException {
        require(capacity >= 1 && capacity <= MOST_CAPACITY);
        require(step >= LEAST_STEP && step <= MOST_STEP);
        history.save(tree);
        int previous = 10 * tree.capacity + tree.step;
        tree.capacity = capacity;
        tree.step = step;
        return previous;
    }

    public int rebuild(int node) throws IndexOutOfBoundsException {
        requireNode(node);
        history.save(tree);
        return tree.renew(node);
    }

    public int rebuildAll() {
        history.save(tree);
        tree.renewAll();
        return tree.entriesOfAll();
    }

    // ---- searching

    public int search(int node, int x) throws IndexOutOfBoundsException, IllegalArgumentException {
        Walk walked = walkTo(node, x);
        history.save(tree);
        tree.searches++;
        tree.searchProbes += walked.probes;
        return walked.answer;
    }

    public int probes(int node, int x) throws IndexOutOfBoundsException, IllegalArgumentException {
        return walkTo(node, x).probes;
    }

    public int plainProbes(int node, int x)
            throws IndexOutOfBoundsException, IllegalArgumentException {
        requireNode(node);
        requireGoal(x);
        walk.plain(tree, node, x);
        return walk.probes;
    }

    public int place(int node, int x) throws IndexOutOfBoundsException, IllegalArgumentException {
        return walkTo(node, x).place;
    }

    public int leastOnPath(int node, int x)
            throws IndexOutOfBoundsException, IllegalArgumentException {
        return walkTo(node, x).least;
    }

    public int nearestOnPath(int node, int x)
            throws IndexOutOfBoundsException, IllegalArgumentException {
        return walkTo(node, x).nearest;
    }

    public int worst(int node) throws IndexOutOfBoundsException {
        requireNode(node);
        return walk.mostProbes(tree, node);
    }

    private Walk walkTo(int node, int x) {
        requireNode(node);
        requireGoal(x);
        walk.bridged(tree, node, x);
        return walk;
    }

    // ---- values

    public int nodes() {
        return tree.size;
    }

    public int node(int node, int what) throws IndexOutOfBoundsException, IllegalArgumentException {
        requireNode(node);
        Catalog here = tree.at(node);
        switch (what) {
            case 0: return here.parent;
            case 1: return here.left;
            case 2: return here.right;
            case 3: return here.depth;
            case 4: return here.keyCount();
            case 5: return here.base.size();
            case 6: return here.marked;
            case 7: return here.buffer.size();
            case 8: return here.list.size();
            default: throw new IllegalArgumentException("there is no such value of a node");
        }
    }

    public int key(int node, int index) throws IndexOutOfBoundsException, IllegalArgumentException {
        requireNode(node);
        require(index >= 0);
        return tree.at(node).keyInOrder(index);
    }

    public int baseKey(int node, int index)
            throws IndexOutOfBoundsException, IllegalArgumentException {
        requireNode(node);
        require(index >= 0);
        Catalog here = tree.at(node);
        int found = here.base.at(index, NONE);
        return here.isMarked(index) ? found + BEYOND_KEYS : found;
    }

    public int bufferKey(int node, int index)
            throws IndexOutOfBoundsException, IllegalArgumentException {
        requireNode(node);
        require(index >= 0);
        return tree.at(node).buffer.at(index, NONE);
    }

    public int entry(int node, int index, int what)
            throws IndexOutOfBoundsException, IllegalArgumentException {
        requireNode(node);
        require(index >= 0);
        require(what == 0 || what == 1);
        Listing list = tree.at(node).list;
        return what == 0 ? list.keys.at(index, NONE) : list.origins.at(index, NONE);
    }

    public int bridge(int node, int place, int to)
            throws IndexOutOfBoundsException, IllegalArgumentException {
        requireNode(node);
        Listing list = tree.at(node).list;
        require(place >= 0 && place <= list.size());
        require(to == OWN || to == LEFT || to == RIGHT);
        return list.bridgeOf(place, to);
    }

    public int count(int what) throws IllegalArgumentException {
        switch (what) {
            case 0: return tree.searches;
            case 1: return tree.searchProbes;
            case 2: return tree.builtLists;
            case 3: return tree.builtEntries;
            case 4: return tree.renewedNodes;
            case 5: return tree.keysOfAll();
            case 6: return tree.entriesOfAll();
            default: throw new IllegalArgumentException("there is no such count");
        }
    }

    // ---- undo and checksum

    public int undo() throws IllegalStateException {
        if (history.size == 0) {
            throw new IllegalStateException("no state is saved");
        }
        history.restore(tree);
        return history.size;
    }

    public long digest() {
        long h = 18592;
        h = 31 * h + history.size;
        h = 31 * h + tree.capacity;
        h = 31 * h + tree.step;
        h = 31 * h + nodes();
        for (int number = 0; number < tree.size; number++) {
            h = withNode(h, number);
        }
        for (int what = 0; what <= 6; what++) {
            h = 31 * h + count(what);
        }
        return h;
    }

    private long withNode(long start, int number) {
        Catalog here = tree.at(number);
        long h = start;
        for (int what = 0; what <= 8; what++) {
            h = 31 * h + node(number, what);
        }
        for (int index = 0; index < here.base.size(); index++) {
            h = 31 * h + baseKey(number, index);
        }
        for (int index = 0; index < here.buffer.size(); index++) {
            h = 31 * h + bufferKey(number, index);
        }
        for (int index = 0; index < here.list.size(); index++) {
            h = withEntry(h, here.list, index);
        }
        return 31 * h + walk.mostProbes(tree, number);
    }

    private long withEntry(long start, Listing list, int index) {
        long h = start;
        h = 31 * h + list.keys.at(index, NONE);
        h = 31 * h + list.origins.at(index, NONE);
        for (int to = OWN; to <= RIGHT; to++) {
            h = 31 * h + list.bridgeOf(index, to);
        }
        return h;
    }

    // ---- tests of arguments

    private void requireNode(int number) {
        if (number < 0 || number >= tree.size) {
            throw new IndexOutOfBoundsException("there is no such node");
        }
    }

    private void requireKey(int key) {
        require(key >= 0 && key < BEYOND_KEYS);
    }

    private void requireGoal(int x) {
        require(x >= 0 && x <= BEYOND_KEYS);
    }

    private void require(boolean inRange) {
        if (!inRange) {
            throw new IllegalArgumentException("an argument is out of range");
        }
    }

    /**
     * A row of numbers with a fixed room. Every index is tested here and nowhere else: what lies
     * outside is read as the value that the caller names, and is never written.
     */
    private static final class Row {
        private final int[] cells;
        private int size;

        Row(int room) {
            cells = new int[room > 0 ? room : 0];
        }

        int size() {
            return size;
        }

        int at(int index, int otherwise) {
            return index >= 0 && index < size && index < cells.length ? cells[index] : otherwise;
        }

        void put(int index, int value) {
            if (index >= 0 && index < size && index < cells.length) {
                cells[index] = value;
            }
        }

        void append(int value) {
            if (size >= 0 && size < cells.length) {
                cells[size] = value;
                size++;
            }
        }

        void insert(int index, int value) {
            if (index < 0 || index > size || size >= cells.length) {
                return;
            }
            size++;
            for (int i = size - 1; i > index; i--) {
                put(i, at(i - 1, 0));
            }
            put(index, value);
        }

        void cutOut(int index) {
            if (index < 0 || index >= size) {
                return;
            }
            for (int i = index; i < size - 1; i++) {
                put(i, at(i + 1, 0));
            }
            size--;
        }

        void cutTo(int length) {
            if (length >= 0 && length < size) {
                size = length;
            }
        }

        int indexOf(int value) {
            for (int i = 0; i < size; i++) {
                if (at(i, 0) == value) {
                    return i;
                }
            }
            return NONE;
        }

        /** In a row in ascending order: the first index, not before from, with at least limit. */
        int firstAtLeast(int limit, int from) {
            int index = from;
            while (index >= 0 && index < size && index < cells.length && cells[index] < limit) {
                index++;
            }
            return index;
        }

        void copyFrom(Row other) {
            int copied = Math.min(other.size, Math.min(other.cells.length, cells.length));
            if (copied >= 0) {
                System.arraycopy(other.cells, 0, cells, 0, copied);
                size = copied;
            }
        }
    }

    /** The list of a node: keys and origins of its entries, and the bridges of its places. */
    private static final class Listing {
        final Row keys = new Row(MOST_ENTRIES);
        final Row origins = new Row(MOST_ENTRIES);
        // The last place, behind all entries, has bridges too.
        private final Row toBase = new Row(MOST_ENTRIES + 1);
        private final Row toLeft = new Row(MOST_ENTRIES + 1);
        private final Row toRight = new Row(MOST_ENTRIES + 1);

        Listing() {
            toBase.append(0);
            toLeft.append(0);
            toRight.append(0);
        }

        int size() {
            return keys.size();
        }

        int bridgeOf(int place, int to) {
            Row bridges = to == OWN ? toBase : to == LEFT ? toLeft : toRight;
            return bridges.at(place, 0);
        }

        void build(Row base, Row left, Row right, int step) {
            keys.cutTo(0);
            origins.cutTo(0);
            int own = 0;
            int fromLeft = step - 1;
            int fromRight = step - 1;
            int most = base.size() + left.size() + right.size();
            for (int entries = 0; entries < most; entries++) {
                int ownKey = base.at(own, BEYOND_KEYS);
                int leftKey = left.at(fromLeft, BEYOND_KEYS);
                int rightKey = right.at(fromRight, BEYOND_KEYS);
                int least = Math.min(ownKey, Math.min(leftKey, rightKey));
                if (least == BEYOND_KEYS) {
                    break;
                }
                keys.append(least);
                if (ownKey == least) {
                    origins.append(OWN);
                    own++;
                } else if (leftKey == least) {
                    origins.append(LEFT);
                    fromLeft += step;
                } else {
                    origins.append(RIGHT);
                    fromRight += step;
                }
            }
            layBridges(toBase, base);
            layBridges(toLeft, left);
            layBridges(toRight, right);
        }

        private void layBridges(Row bridges, Row below) {
            bridges.cutTo(0);
            int less = 0;
            for (int place = 0; place <= keys.size(); place++) {
                less = below.firstAtLeast(keys.at(place, BEYOND_KEYS), less);
                bridges.append(less);
            }
        }

        void copyFrom(Listing other) {
            keys.copyFrom(other.keys);
            origins.copyFrom(other.origins);
            toBase.copyFrom(other.toBase);
            toLeft.copyFrom(other.toLeft);
            toRight.copyFrom(other.toRight);
        }
    }

    /** A node: its place in the tree, the catalog as base, marks and buffer, and its list. */
    private static final class Catalog {
        int parent = NONE;
        int left = NONE;
        int right = NONE;
        int depth;
        int marked;
        final Row base = new Row(MOST_KEYS);
        // As long as the base: 1 where its key is marked, otherwise 0.
        private final Row marks = new Row(MOST_KEYS);
        final Row buffer = new Row(MOST_CAPACITY);
        final Listing list = new Listing();

        int child(int side) {
            return side == LEFT ? left : right;
        }

        boolean isMarked(int index) {
            return marks.at(index, 0) == 1;
        }

        int keyCount() {
            return base.size() - marked + buffer.size();
        }

        boolean isFull() {
            return keyCount() >= MOST_KEYS;
        }

        boolean holds(int key) {
            int index = base.indexOf(key);
            return (index != NONE && !isMarked(index)) || buffer.indexOf(key) != NONE;
        }

        /** Takes in a key that it does not hold; answers whether the key came to the buffer. */
        boolean takeIn(int key) {
            int index = base.indexOf(key);
            if (index == NONE) {
                buffer.append(key);
                return true;
            }
            marks.put(index, 0);
            marked--;
            return false;
        }

        /** Lets go a key that it holds; answers whether the key was marked for it. */
        boolean letGo(int key) {
            int index = buffer.indexOf(key);
            if (index != NONE) {
                buffer.cutOut(index);
                return false;
            }
            marks.put(base.indexOf(key), 1);
            marked++;
            return true;
        }

        /** Makes the catalog the base, without marks, and the buffer empty. */
        void settle() {
            int kept = 0;
            for (int i = 0; i < base.size(); i++) {
                if (!isMarked(i)) {
                    base.put(kept, base.at(i, 0));
                    kept++;
                }
            }
            base.cutTo(kept);
            for (int i = 0; i < buffer.size(); i++) {
                int key = buffer.at(i, 0);
                base.insert(base.firstAtLeast(key, 0), key);
            }
            buffer.cutTo(0);
            marks.cutTo(0);
            for (int i = 0; i < base.size(); i++) {
                marks.append(0);
            }
            marked = 0;
        }

        int firstUnmarked(int from) {
            int index = from;
            while (index < base.size() && marks.at(index, 0) == 1) {
                index++;
            }
            return index;
        }

        /** The least key of the buffer that is at least x and less than bound; otherwise bound. */
        int leastBuffered(int x, int bound) {
            int least = bound;
            for (int i = 0; i < buffer.size(); i++) {
                int key = buffer.at(i, 0);
                if (key >= x && key < least) {
                    least = key;
                }
            }
            return least;
        }

        int keyInOrder(int index) {
            if (index >= keyCount()) {
                return NONE;
            }
            int key = NONE;
            for (int i = 0; i <= index; i++) {
                int next = key + 1;
                int inBase = firstUnmarked(base.firstAtLeast(next, 0));
                key = leastBuffered(next, base.at(inBase, BEYOND_KEYS));
            }
            return key;
        }

        /** Becomes a node without keys and children, whatever an undone node has left here. */
        void begin(int newParent, int newDepth) {
            parent = newParent;
            left = NONE;
            right = NONE;
            depth = newDepth;
            marked = 0;
            base.cutTo(0);
            marks.cutTo(0);
            buffer.cutTo(0);
        }

        void copyFrom(Catalog other) {
            parent = other.parent;
            left = other.left;
            right = other.right;
            depth = other.depth;
            marked = other.marked;
            base.copyFrom(other.base);
            marks.copyFrom(other.marks);
            buffer.copyFrom(other.buffer);
            list.copyFrom(other.list);
        }
    }

    /** The whole state but for the undo stack: the nodes, the sizes and the counts. */
    private static final class Tree {
        private final Catalog[] catalogs = new Catalog[MOST_NODES];
        private final Catalog root = new Catalog();
        // Stands for the list of a child that is not there.
        private final Row noEntries = new Row(0);
        int size = 1;
        int capacity = FIRST_CAPACITY;
        int step = FIRST_STEP;
        int searches;
        int searchProbes;
        int builtLists;
        int builtEntries;
        int renewedNodes;

        Tree() {
            catalogs[0] = root;
            for (int i = 1; i < catalogs.length; i++) {
                catalogs[i] = new Catalog();
            }
        }

        /** The node with this number; the root for a number without a node, so it is never null. */
        Catalog at(int number) {
            Catalog found = number >= 0 && number < catalogs.length ? catalogs[number] : null;
            return found != null ? found : root;
        }

        int grow(int parent, int side) {
            int number = size;
            Catalog above = at(parent);
            if (side == LEFT) {
                above.left = number;
            } else {
                above.right = number;
            }
            at(number).begin(parent, above.depth + 1);
            size++;
            buildUpFrom(number);
            return number;
        }

        boolean takeIn(int number, int key) {
            Catalog here = at(number);
            if (here.holds(key)) {
                return false;
            }
            boolean buffered = here.takeIn(key);
            if (buffered && here.buffer.size() >= capacity) {
                renew(number);
            }
            return true;
        }

        boolean drop(int number, int key) {
            Catalog here = at(number);
            if (!here.holds(key)) {
                return false;
            }
            boolean newlyMarked = here.letGo(key);
            if (newlyMarked && 2 * here.marked > here.base.size()) {
                renew(number);
            }
            return true;
        }

        /** Rebuilds a node; answers how many entries the lists that were built have. */
        int renew(int number) {
            at(number).settle();
            renewedNodes++;
            return buildUpFrom(number);
        }

        void renewAll() {
            for (int number = size - 1; number >= 0; number--) {
                renew(number);
            }
        }

        private int buildUpFrom(int number) {
            int entries = 0;
            Catalog here = at(number);
            for (int level = here.depth; level >= 0; level--) {
                here.list.build(here.base, entriesOf(here.left), entriesOf(here.right), step);
                builtLists++;
                entries += here.list.size();
                here = at(here.parent);
            }
            builtEntries += entries;
            return entries;
        }

        private Row entriesOf(int child) {
            return child == NONE ? noEntries : at(child).list.keys;
        }

        int keysOfAll() {
            int sum = 0;
            for (int number = 0; number < size; number++) {
                sum += at(number).keyCount();
            }
            return sum;
        }

        int entriesOfAll() {
            int sum = 0;
            for (int number = 0; number < size; number++) {
                sum += at(number).list.size();
            }
            return sum;
        }

        void copyFrom(Tree other) {
            size = other.size;
            capacity = other.capacity;
            step = other.step;
            searches = other.searches;
            searchProbes = other.searchProbes;
            builtLists = other.builtLists;
            builtEntries = other.builtEntries;
            renewedNodes = other.renewedNodes;
            for (int number = 0; number < size; number++) {
                at(number).copyFrom(other.at(number));
            }
        }
    }

    /** A search along the path of a node, and what it found. */
    private static final class Walk {
        // The nodes from the root down, and the side of each below the one before it.
        private final Row path = new Row(MOST_NODES);
        private final Row sides = new Row(MOST_NODES);
        int probes;
        // The place in the last list, and the answer of the last node.
        int place;
        int answer;
        // The least of the answers on the path, and the first node that has it.
        int least;
        int nearest;

        void bridged(Tree tree, int last, int x) {
            layPath(tree, last);
            searchPath(tree, x);
        }

        void plain(Tree tree, int last, int x) {
            layPath(tree, last);
            start();
            for (int level = 0; level < path.size(); level++) {
                int number = path.at(level, 0);
                place = halve(tree.at(number).base, x);
                answerAt(tree, number, place, x);
            }
        }

        /** The most probes of a search along the path of a node. */
        int mostProbes(Tree tree, int last) {
            layPath(tree, last);
            searchPath(tree, 0);
            int most = probes;
            for (int level = 0; level < path.size(); level++) {
                Listing list = tree.at(path.at(level, 0)).list;
                int onward = sides.at(level + 1, NONE);
                for (int i = 0; i < list.size(); i++) {
                    int key = list.keys.at(i, NONE);
                    // All x from behind one key up to the next are searched with the same probes,
                    // and a sample of the next list on the path is met there again.
                    if (key != list.keys.at(i - 1, NONE) && list.origins.at(i, NONE) != onward) {
                        searchPath(tree, key + 1);
                        most = Math.max(most, probes);
                    }
                }
            }
            return most;
        }

        private void layPath(Tree tree, int last) {
            path.cutTo(0);
            sides.cutTo(0);
            int number = last;
            for (int level = tree.at(last).depth; level >= 0; level--) {
                int parent = tree.at(number).parent;
                path.insert(0, number);
                sides.insert(0, tree.at(parent).left == number ? LEFT : RIGHT);
                number = parent;
            }
        }

        private void start() {
            probes = 0;
            place = 0;
            answer = NONE;
            least = NONE;
            nearest = NONE;
        }

        private void searchPath(Tree tree, int x) {
            start();
            for (int level = 0; level < path.size(); level++) {
                int number = path.at(level, 0);
                Catalog here = tree.at(number);
                if (level == 0) {
                    place = halve(here.list.keys, x);
                } else {
                    Listing above = tree.at(here.parent).list;
                    int from = above.bridgeOf(place, sides.at(level, LEFT));
                    place = stepBack(here.list.keys, from, x);
                }
                answerAt(tree, number, here.list.bridgeOf(place, OWN), x);
            }
        }

        private int halve(Row keys, int x) {
            int low = 0;
            int high = keys.size();
            while (low < high) {
                int middle = (low + high) / 2;
                probes++;
                if (keys.at(middle, BEYOND_KEYS) >= x) {
                    high = middle;
                } else {
                    low = middle + 1;
                }
            }
            return low;
        }

        private int stepBack(Row keys, int from, int x) {
            int back = from;
            while (back > 0) {
                probes++;
                if (keys.at(back - 1, NONE) < x) {
                    break;
                }
                back--;
            }
            return back;
        }

        private void answerAt(Tree tree, int number, int from, int x) {
            Catalog here = tree.at(number);
            int unmarked = here.firstUnmarked(from);
            probes += unmarked - from;
            probes += here.buffer.size();
            int found = here.leastBuffered(x, here.base.at(unmarked, BEYOND_KEYS));
            answer = found < BEYOND_KEYS ? found : NONE;
            if (answer != NONE && (least == NONE || answer < least)) {
                least = answer;
                nearest = number;
            }
        }
    }

    /** The undo stack: the latest saved states, in a ring. */
    private static final class History {
        private final Tree[] saved = new Tree[MOST_UNDO];
        // Where the next state is saved, over the oldest one when the ring is full.
        private int next;
        int size;

        History() {
            for (int i = 0; i < saved.length; i++) {
                saved[i] = new Tree();
            }
        }

        void save(Tree tree) {
            Tree free = savedAt(next);
            if (free == null) {
                return;
            }
            free.copyFrom(tree);
            next = next < MOST_UNDO - 1 ? next + 1 : 0;
            size = Math.min(size + 1, MOST_UNDO);
        }

        void restore(Tree tree) {
            int latest = next > 0 ? next - 1 : MOST_UNDO - 1;
            Tree last = savedAt(latest);
            if (last == null || size == 0) {
                return;
            }
            tree.copyFrom(last);
            next = latest;
            size--;
        }

        private Tree savedAt(int index) {
            return index >= 0 && index < saved.length ? saved[index] : null;
        }
    }
}
