import java.util.Arrays;
import java.util.Random;

/** Long runs of calls, in range and out of it, on the class and on the model side by side. */
public final class ModelTest {
    private static final int RUNS = 80;
    private static final int STEPS = 512;
    private static final int EXTREMES = 40;
    private static final int[] ODD = {-1, Integer.MIN_VALUE, Integer.MAX_VALUE, 10001, 15, 9};

    private final Check check = new Check("ModelTest");
    private final Random random;
    private final Subject made = new Subject();
    private final Model model = new Model();
    // Narrow ranges of keys make equal keys in neighbouring lists frequent.
    private final int keys;
    private final int run;
    private boolean differs;

    private ModelTest(int run) {
        this.run = run;
        random = new Random(run);
        keys = new int[] {30, 120, 1000, 10000}[run % 4];
    }

    public static void main(String[] arguments) {
        Check all = new Check("ModelTest");
        for (int run = 0; run < RUNS; run++) {
            ModelTest test = new ModelTest(run);
            test.play();
            all.same("run " + run, test.differs, false);
        }
        all.end();
    }

    private void play() {
        grow();
        for (int i = 1; i <= STEPS && !differs && made.changes() < Subject.MOST_CHANGES; i++) {
            step();
            if (i % 64 == 0) {
                everything();
            }
        }
        everything();
        both("digest");
    }

    /** Starts with a chain, a full tree or a tree of any shape. */
    private void grow() {
        for (int i = 1; i < 15; i++) {
            switch (run % 5) {
                case 0 -> both("addNode", i - 1, 1 + random.nextInt(2));
                case 1 -> both("addNode", (i - 1) / 2, 2 - i % 2);
                case 2 -> both("addNode", random.nextInt(i), 1 + random.nextInt(2));
                default -> { }
            }
        }
    }

    private void step() {
        int node = number(made.value("nodes") + (random.nextInt(12) == 0 ? 1 : 0));
        int key = key();
        switch (random.nextInt(24)) {
            case 0 -> both("addNode", node, odd(1 + random.nextInt(2)));
            case 1, 2, 3, 4, 5 -> both("add", node, key);
            case 6, 7, 8, 9 -> both("remove", node, held(node));
            case 10 -> both("remove", node, key);
            case 11, 12 -> both("addSeries", node, key, odd(1 + random.nextInt(keys / 20 + 1)),
                odd(1 + random.nextInt(24)));
            case 13 -> both("setSizes", odd(1 + random.nextInt(8)), odd(2 + random.nextInt(4)));
            case 14 -> both("rebuild", node);
            case 15 -> {
                if (random.nextInt(4) == 0) {
                    both("rebuildAll");
                }
            }
            case 16, 17 -> both("search", node, goal());
            case 18 -> both("worst", node);
            case 19, 20 -> undoSome();
            default -> look(node, goal());
        }
    }

    private void look(int node, int x) {
        for (String name : new String[] {"probes", "plainProbes", "place", "leastOnPath",
            "nearestOnPath"}) {
            both(name, node, x);
        }
        both("node", node, odd(random.nextInt(9)));
        both("entry", node, odd(random.nextInt(30)), odd(random.nextInt(2)));
        both("bridge", node, odd(random.nextInt(30)), odd(random.nextInt(3)));
        both("count", odd(random.nextInt(7)));
    }

    private void undoSome() {
        if (random.nextInt(3) == 0) {
            for (int i = random.nextInt(6); i > 0; i--) {
                both("undo");
            }
        }
    }

    private int number(int bound) {
        return random.nextInt(EXTREMES) == 0 ? odd() : random.nextInt(bound);
    }

    private int key() {
        return random.nextInt(EXTREMES) == 0 ? odd() : random.nextInt(keys);
    }

    private int goal() {
        return random.nextInt(EXTREMES) == 0 ? odd() : random.nextInt(keys + 1);
    }

    private int odd(int usual) {
        return random.nextInt(EXTREMES) == 0 ? odd() : usual;
    }

    private int odd() {
        return ODD[random.nextInt(ODD.length)];
    }

    /** A key that the catalog of the node holds, if there is any. */
    private int held(int node) {
        if (node < 0 || node >= made.value("nodes") || made.value("node", node, 4) == 0) {
            return key();
        }
        return made.value("key", node, random.nextInt(made.value("node", node, 4)));
    }

    /** Compares all that can be read but the digest, which is slow in the model. */
    private void everything() {
        for (int what = 0; what <= 6; what++) {
            both("count", what);
        }
        both("nodes");
        for (int node = 0; node < made.value("nodes"); node++) {
            for (int what = 0; what <= 8; what++) {
                both("node", node, what);
            }
            for (int index = 0; index <= 25; index++) {
                both("key", node, index);
                both("baseKey", node, index);
                both("bufferKey", node, index);
            }
            for (int index = 0; index <= made.value("node", node, 8); index++) {
                both("entry", node, index, 0);
                both("entry", node, index, 1);
                for (int to = 0; to <= 2; to++) {
                    both("bridge", node, index, to);
                }
            }
        }
    }

    private void both(String name, int... arguments) {
        String got = made.answer(name, arguments);
        String want = Check.answer(model, name, arguments);
        if (!got.equals(want)) {
            differs = true;
            check.same("run " + run + " " + name + Arrays.toString(arguments), got, want);
        }
    }
}
