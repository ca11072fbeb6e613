import java.lang.reflect.InvocationTargetException;
import java.lang.reflect.Method;
import java.util.Arrays;
import java.util.function.Supplier;

/** Calls methods by their names, compares their answers, and counts what is wrong. */
final class Check {
    static final String BOUNDS = "IndexOutOfBoundsException";
    static final String ARGUMENT = "IllegalArgumentException";
    static final String STATE = "IllegalStateException";

    private final String title;
    private int right;
    private int wrong;

    Check(String title) {
        this.title = title;
    }

    /** The answer as a text (true is 1, false is 0), or "throws." with the exception's full name. */
    static String answer(Object target, String name, int... arguments) {
        Class<?>[] types = new Class<?>[arguments.length];
        Arrays.fill(types, int.class);
        Object[] values = new Object[arguments.length];
        for (int i = 0; i < arguments.length; i++) {
            values[i] = arguments[i];
        }
        try {
            Method method = target.getClass().getDeclaredMethod(name, types);
            Object result = method.invoke(target, values);
            if (result instanceof Boolean) {
                return (Boolean) result ? "1" : "0";
            }
            return String.valueOf(result);
        } catch (InvocationTargetException e) {
            return "throws." + e.getCause().getClass().getName();
        } catch (ReflectiveOperationException e) {
            throw new AssertionError(e);
        }
    }

    void due(long want, Object target, String name, int... arguments) {
        same(name + Arrays.toString(arguments), answer(target, name, arguments), "" + want);
    }

    void outOfBounds(Object target, String name, int... arguments) {
        thrown(BOUNDS, target, name, arguments);
    }

    void badArgument(Object target, String name, int... arguments) {
        thrown(ARGUMENT, target, name, arguments);
    }

    void badState(Object target, String name, int... arguments) {
        thrown(STATE, target, name, arguments);
    }

    /** The exception must come, and must leave the state as it was. */
    private void thrown(String exception, Object target, String name, int... arguments) {
        String before = answer(target, "digest");
        String call = name + Arrays.toString(arguments);
        same(call, answer(target, name, arguments), "throws.java.lang." + exception);
        same("digest after the exception of " + call, answer(target, "digest"), before);
    }

    /**
     * The exception must come, and must leave the state as it was, and the saved states too: so the
     * object is compared with another one that did not have the call, back to the oldest state.
     */
    void refused(Supplier<?> maker, String exception, String name, int... arguments) {
        Object target = maker.get();
        String call = name + Arrays.toString(arguments);
        String before = state(target);
        same(call, answer(target, name, arguments), "throws.java.lang." + exception);
        same("state after the exception of " + call, state(target), before);
        Object twin = maker.get();
        for (int undone = 1; undone <= 5; undone++) {
            String what = " after the exception of " + call + " and " + undone + " undo";
            same("answer" + what, answer(target, "undo"), answer(twin, "undo"));
            same("state" + what, state(target), state(twin));
        }
    }

    /** The digest, and what it leaves out: the bridges of each last place. */
    static String state(Object target) {
        StringBuilder state = new StringBuilder(answer(target, "digest"));
        int nodes = Integer.parseInt(answer(target, "nodes"));
        for (int node = 0; node < nodes; node++) {
            int last = Integer.parseInt(answer(target, "node", node, 8));
            for (int to = 0; to <= 2; to++) {
                state.append(' ').append(answer(target, "bridge", node, last, to));
            }
        }
        return state.toString();
    }

    /** All that a row of the node tells by its numbers from 0 on, and NONE behind it. */
    void rows(Object target, String name, int node, int... keys) {
        for (int i = 0; i < keys.length; i++) {
            due(keys[i], target, name, node, i);
        }
        due(-1, target, name, node, keys.length);
    }

    /** The values of node() from 0 on. */
    void nodeValues(Object target, int node, int... values) {
        for (int what = 0; what < values.length; what++) {
            due(values[what], target, "node", node, what);
        }
    }

    /** The entries of a list, each told as 10 * key + origin. */
    void entries(Object target, int node, int... entries) {
        due(entries.length, target, "node", node, 8);
        for (int i = 0; i < entries.length; i++) {
            due(entries[i] / 10, target, "entry", node, i, 0);
            due(entries[i] % 10, target, "entry", node, i, 1);
        }
    }

    /** The bridges to one row from all places of a list, and none behind the last place. */
    void bridges(Object target, int node, int to, int... bridges) {
        for (int place = 0; place < bridges.length; place++) {
            due(bridges[place], target, "bridge", node, place, to);
        }
        badArgument(target, "bridge", node, bridges.length, to);
    }

    void same(String what, Object got, Object want) {
        if (want.equals(got)) {
            right++;
        } else {
            wrong++;
            System.out.println(title + ": " + what + " is " + got + ", due is " + want);
        }
    }

    /** Ends the program, with exit code 1 if anything was wrong. */
    void end() {
        System.out.println(title + ": " + right + " right, " + wrong + " wrong");
        System.exit(wrong == 0 && right > 0 ? 0 : 1);
    }
}
