import java.util.ArrayDeque;
import java.util.ArrayList;
import java.util.Collections;
import java.util.Comparator;
import java.util.Deque;
import java.util.List;
import java.util.TreeMap;
import java.util.TreeSet;

/** The document's words once more, as plainly and slowly as they can be written. */
final class Model {
    private static final int NONE = -1;

    private record Entry(int key, int origin) { }

    private static final class Node {
        int parent = NONE;
        int[] children = {NONE, NONE, NONE};
        int depth;
        // Each key of the base, with true where it is marked.
        TreeMap<Integer, Boolean> base = new TreeMap<>();
        List<Integer> buffer = new ArrayList<>();
        List<Entry> list = new ArrayList<>();
        List<int[]> bridges = new ArrayList<>(List.of(new int[3]));

        TreeSet<Integer> catalog() {
            TreeSet<Integer> keys = new TreeSet<>(buffer);
            base.forEach((key, marked) -> {
                if (!marked) {
                    keys.add(key);
                }
            });
            return keys;
        }

        Node copy() {
            Node node = new Node();
            node.parent = parent;
            node.children = children.clone();
            node.depth = depth;
            node.base = new TreeMap<>(base);
            node.buffer = new ArrayList<>(buffer);
            node.list = new ArrayList<>(list);
            node.bridges = new ArrayList<>(bridges);
            return node;
        }
    }

    private static final class State {
        List<Node> nodes = new ArrayList<>();
        int capacity = 4;
        int step = 2;
        int[] counts = new int[5];

        State copy() {
            State state = new State();
            nodes.forEach(node -> state.nodes.add(node.copy()));
            state.capacity = capacity;
            state.step = step;
            state.counts = counts.clone();
            return state;
        }
    }

    private static final class Found {
        int probes;
        int place;
        List<Integer> answers = new ArrayList<>();
    }

    private State state = new State();
    private final Deque<State> saved = new ArrayDeque<>();

    Model() {
        state.nodes.add(new Node());
    }

    int addNode(int parent, int side) {
        Node above = existing(parent);
        argument(side == 1 || side == 2);
        if (state.nodes.size() == 15 || above.children[side] != NONE) {
            throw new IllegalStateException();
        }
        save();
        Node node = new Node();
        node.parent = parent;
        node.depth = above.depth + 1;
        above.children[side] = state.nodes.size();
        state.nodes.add(node);
        buildFrom(state.nodes.size() - 1);
        return state.nodes.size() - 1;
    }

    boolean add(int node, int key) {
        TreeSet<Integer> keys = existing(node).catalog();
        argument(key >= 0 && key <= 9999);
        if (!keys.contains(key) && keys.size() == 24) {
            throw new IllegalStateException();
        }
        save();
        return put(node, key);
    }

    private boolean put(int number, int key) {
        Node node = state.nodes.get(number);
        if (node.catalog().contains(key)) {
            return false;
        }
        if (node.base.containsKey(key)) {
            node.base.put(key, false);
            return true;
        }
        node.buffer.add(key);
        if (node.buffer.size() >= state.capacity) {
            renew(number);
        }
        return true;
    }

    boolean remove(int number, int key) {
        Node node = existing(number);
        argument(key >= 0 && key <= 9999);
        save();
        if (!node.catalog().contains(key)) {
            return false;
        }
        if (!node.buffer.remove((Integer) key)) {
            node.base.put(key, true);
            if (marked(node) > node.base.size() / 2.0) {
                renew(number);
            }
        }
        return true;
    }

    private static int marked(Node node) {
        return Collections.frequency(node.base.values(), true);
    }

    int addSeries(int node, int first, int difference, int many) {
        existing(node);
        argument(first >= 0 && first <= 9999);
        argument(difference >= 1 && difference <= 999);
        argument(many >= 1 && many <= 24);
        save();
        int added = 0;
        for (int i = 0; i < many; i++) {
            int key = first + i * difference;
            if (key > 9999 || state.nodes.get(node).catalog().size() == 24) {
                break;
            }
            added += put(node, key) ? 1 : 0;
        }
        return added;
    }

    int setSizes(int capacity, int step) {
        argument(capacity >= 1 && capacity <= 8 && step >= 2 && step <= 5);
        save();
        int previous = 10 * state.capacity + state.step;
        state.capacity = capacity;
        state.step = step;
        return previous;
    }

    int rebuild(int node) {
        existing(node);
        save();
        return renew(node);
    }

    int rebuildAll() {
        save();
        for (int number = state.nodes.size() - 1; number >= 0; number--) {
            renew(number);
        }
        return count(6);
    }

    private int renew(int number) {
        Node node = state.nodes.get(number);
        TreeMap<Integer, Boolean> base = new TreeMap<>();
        node.catalog().forEach(key -> base.put(key, false));
        node.base = base;
        node.buffer.clear();
        state.counts[4]++;
        return buildFrom(number);
    }

    private int buildFrom(int number) {
        int entries = 0;
        for (int here = number; here != NONE; here = state.nodes.get(here).parent) {
            build(state.nodes.get(here));
            entries += state.nodes.get(here).list.size();
            state.counts[2]++;
        }
        state.counts[3] += entries;
        return entries;
    }

    private void build(Node node) {
        node.list = new ArrayList<>();
        node.base.keySet().forEach(key -> node.list.add(new Entry(key, 0)));
        for (int side = 1; side <= 2; side++) {
            List<Entry> below = below(node, side);
            for (int nth = 1; nth * state.step - 1 < below.size(); nth++) {
                node.list.add(new Entry(below.get(nth * state.step - 1).key(), side));
            }
        }
        node.list.sort(Comparator.comparingInt(Entry::key).thenComparingInt(Entry::origin));
        node.bridges = new ArrayList<>();
        for (int place = 0; place <= node.list.size(); place++) {
            int limit = place < node.list.size() ? node.list.get(place).key() : Integer.MAX_VALUE;
            node.bridges.add(new int[] {
                (int) node.base.keySet().stream().filter(key -> key < limit).count(),
                (int) below(node, 1).stream().filter(entry -> entry.key() < limit).count(),
                (int) below(node, 2).stream().filter(entry -> entry.key() < limit).count()});
        }
    }

    private List<Entry> below(Node node, int side) {
        int child = node.children[side];
        return child == NONE ? List.of() : state.nodes.get(child).list;
    }

    int search(int node, int x) {
        Found found = bridged(node, x);
        save();
        state.counts[0]++;
        state.counts[1] += found.probes;
        return found.answers.get(found.answers.size() - 1);
    }

    int probes(int node, int x) {
        return bridged(node, x).probes;
    }

    int place(int node, int x) {
        return bridged(node, x).place;
    }

    int leastOnPath(int node, int x) {
        List<Integer> answers = bridged(node, x).answers;
        return answers.stream().filter(key -> key != NONE).min(Integer::compare).orElse(NONE);
    }

    int nearestOnPath(int node, int x) {
        int least = leastOnPath(node, x);
        return least == NONE ? NONE : path(node).get(bridged(node, x).answers.indexOf(least));
    }

    int plainProbes(int node, int x) {
        existing(node);
        argument(x >= 0 && x <= 10000);
        Found found = new Found();
        for (int number : path(node)) {
            List<Integer> base = new ArrayList<>(state.nodes.get(number).base.keySet());
            finish(found, number, halve(found, base, x), x);
        }
        return found.probes;
    }

    int worst(int node) {
        existing(node);
        int worst = 0;
        for (int x = 0; x <= 10000; x++) {
            worst = Math.max(worst, probes(node, x));
        }
        return worst;
    }

    private Found bridged(int node, int x) {
        existing(node);
        argument(x >= 0 && x <= 10000);
        Found found = new Found();
        int above = NONE;
        for (int number : path(node)) {
            Node here = state.nodes.get(number);
            if (above == NONE) {
                List<Integer> keys = new ArrayList<>();
                here.list.forEach(entry -> keys.add(entry.key()));
                found.place = halve(found, keys, x);
            } else {
                int side = state.nodes.get(above).children[1] == number ? 1 : 2;
                int place = state.nodes.get(above).bridges.get(found.place)[side];
                boolean goesOn = true;
                while (place > 0 && goesOn) {
                    found.probes++;
                    goesOn = here.list.get(place - 1).key() >= x;
                    place -= goesOn ? 1 : 0;
                }
                found.place = place;
            }
            finish(found, number, here.bridges.get(found.place)[0], x);
            above = number;
        }
        return found;
    }

    private static int halve(Found found, List<Integer> keys, int x) {
        int low = 0;
        int high = keys.size();
        while (low < high) {
            int middle = (low + high) / 2;
            found.probes++;
            if (keys.get(middle) >= x) {
                high = middle;
            } else {
                low = middle + 1;
            }
        }
        return low;
    }

    private void finish(Found found, int number, int from, int x) {
        Node node = state.nodes.get(number);
        List<Integer> base = new ArrayList<>(node.base.keySet());
        int index = from;
        while (index < base.size() && node.base.get(base.get(index))) {
            found.probes++;
            index++;
        }
        int least = index < base.size() ? base.get(index) : Integer.MAX_VALUE;
        for (int key : node.buffer) {
            found.probes++;
            least = key >= x ? Math.min(least, key) : least;
        }
        found.answers.add(least == Integer.MAX_VALUE ? NONE : least);
    }

    private List<Integer> path(int node) {
        List<Integer> path = new ArrayList<>();
        for (int here = node; here != NONE; here = state.nodes.get(here).parent) {
            path.add(0, here);
        }
        return path;
    }

    int nodes() {
        return state.nodes.size();
    }

    int node(int number, int what) {
        Node node = existing(number);
        argument(what >= 0 && what <= 8);
        int[] values = {node.parent, node.children[1], node.children[2], node.depth,
            node.catalog().size(), node.base.size(), marked(node), node.buffer.size(),
            node.list.size()};
        return values[what];
    }

    int key(int node, int index) {
        return valueAt(new ArrayList<>(existing(node).catalog()), index);
    }

    int baseKey(int node, int index) {
        List<Integer> values = new ArrayList<>();
        existing(node).base.forEach((key, marked) -> values.add(marked ? key + 10000 : key));
        return valueAt(values, index);
    }

    int bufferKey(int node, int index) {
        return valueAt(existing(node).buffer, index);
    }

    private static int valueAt(List<Integer> values, int index) {
        argument(index >= 0);
        return index < values.size() ? values.get(index) : NONE;
    }

    int entry(int node, int index, int what) {
        List<Entry> list = existing(node).list;
        argument(index >= 0);
        argument(what == 0 || what == 1);
        if (index >= list.size()) {
            return NONE;
        }
        return what == 0 ? list.get(index).key() : list.get(index).origin();
    }

    int bridge(int node, int place, int to) {
        Node here = existing(node);
        argument(place >= 0 && place <= here.list.size());
        argument(to >= 0 && to <= 2);
        return here.bridges.get(place)[to];
    }

    int count(int what) {
        argument(what >= 0 && what <= 6);
        if (what < 5) {
            return state.counts[what];
        }
        int sum = 0;
        for (Node node : state.nodes) {
            sum += what == 5 ? node.catalog().size() : node.list.size();
        }
        return sum;
    }

    int undo() {
        if (saved.isEmpty()) {
            throw new IllegalStateException();
        }
        state = saved.removeLast();
        return saved.size();
    }

    long digest() {
        List<Integer> values = new ArrayList<>(
            List.of(saved.size(), state.capacity, state.step, nodes()));
        for (int number = 0; number < nodes(); number++) {
            for (int what = 0; what <= 8; what++) {
                values.add(node(number, what));
            }
            for (int index = 0; baseKey(number, index) != NONE; index++) {
                values.add(baseKey(number, index));
            }
            values.addAll(state.nodes.get(number).buffer);
            for (int index = 0; entry(number, index, 0) != NONE; index++) {
                values.add(entry(number, index, 0));
                values.add(entry(number, index, 1));
                for (int to = 0; to <= 2; to++) {
                    values.add(bridge(number, index, to));
                }
            }
            values.add(worst(number));
        }
        for (int what = 0; what <= 6; what++) {
            values.add(count(what));
        }
        long h = 18592;
        for (int value : values) {
            h = 31 * h + value;
        }
        return h;
    }

    private void save() {
        saved.addLast(state.copy());
        if (saved.size() > 4) {
            saved.removeFirst();
        }
    }

    private Node existing(int number) {
        if (number < 0 || number >= state.nodes.size()) {
            throw new IndexOutOfBoundsException();
        }
        return state.nodes.get(number);
    }

    private static void argument(boolean inRange) {
        if (!inRange) {
            throw new IllegalArgumentException();
        }
    }
}
