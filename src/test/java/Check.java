import java.lang.reflect.InvocationTargetException;
import java.lang.reflect.Method;
import java.util.Arrays;

/** Calls methods by their names, compares their answers, and counts what is wrong. */
final class Check {
    private final String title;
    private int right;
    private int wrong;

    Check(String title) {
        this.title = title;
    }

    /** The answer as a text (true is 1, false is 0), or "throws." with the exception's full name. */
    static String answer(Object target, String name, int... arguments) {
        Class<?>[] types = new Class<?>[arguments.length];
        Arrays.fill(types, int.class);
        Object[] values = new Object[arguments.length];
        for (int i = 0; i < arguments.length; i++) {
            values[i] = arguments[i];
        }
        try {
            Method method = target.getClass().getDeclaredMethod(name, types);
            Object result = method.invoke(target, values);
            if (result instanceof Boolean) {
                return (Boolean) result ? "1" : "0";
            }
            return String.valueOf(result);
        } catch (InvocationTargetException e) {
            return "throws." + e.getCause().getClass().getName();
        } catch (ReflectiveOperationException e) {
            throw new AssertionError(e);
        }
    }

    void due(long want, Object target, String name, int... arguments) {
        same(name + Arrays.toString(arguments), answer(target, name, arguments), "" + want);
    }

    void outOfBounds(Object target, String name, int... arguments) {
        thrown("IndexOutOfBoundsException", target, name, arguments);
    }

    void badArgument(Object target, String name, int... arguments) {
        thrown("IllegalArgumentException", target, name, arguments);
    }

    void badState(Object target, String name, int... arguments) {
        thrown("IllegalStateException", target, name, arguments);
    }

    /** The exception must come, and must leave the state as it was. */
    private void thrown(String exception, Object target, String name, int... arguments) {
        String before = answer(target, "digest");
        String call = name + Arrays.toString(arguments);
        same(call, answer(target, name, arguments), "throws.java.lang." + exception);
        same("digest after the exception of " + call, answer(target, "digest"), before);
    }

    void same(String what, Object got, Object want) {
        if (want.equals(got)) {
            right++;
        } else {
            wrong++;
            System.out.println(title + ": " + what + " is " + got + ", due is " + want);
        }
    }

    /** Ends the program, with exit code 1 if anything was wrong. */
    void end() {
        System.out.println(title + ": " + right + " right, " + wrong + " wrong");
        System.exit(wrong == 0 && right > 0 ? 0 : 1);
    }
}
