import java.lang.reflect.Constructor;
import java.lang.reflect.Field;
import java.lang.reflect.Method;
import java.lang.reflect.Modifier;
import java.util.ArrayList;
import java.util.Arrays;
import java.util.List;
import java.util.TreeSet;

/** The public face is the document's, name by name, and nothing beside it can be reached. */
public final class FaceTest {
    private static final String BOUNDS = "IndexOutOfBoundsException";
    private static final String ARGUMENT = "IllegalArgumentException";
    private static final String STATE = "IllegalStateException";

    private static final Check check = new Check("FaceTest");
    private static final Class<?> FACE = BridgedCatalogs.class;

    public static void main(String[] arguments) {
        check.same("modifiers of the class", Modifier.toString(FACE.getModifiers()), "public final");
        check.same("constants", constants(), List.of("LEFT=1", "NONE=-1", "OWN=0", "RIGHT=2"));
        check.same("constructors", constructors(), List.of("public BridgedCatalogs()"));
        check.same("methods", methods(), sorted(
            method("int addNode", 2, BOUNDS, ARGUMENT, STATE),
            method("boolean add", 2, BOUNDS, ARGUMENT, STATE),
            method("boolean remove", 2, BOUNDS, ARGUMENT),
            method("int addSeries", 4, BOUNDS, ARGUMENT),
            method("int setSizes", 2, ARGUMENT),
            method("int rebuild", 1, BOUNDS),
            method("int rebuildAll", 0),
            method("int search", 2, BOUNDS, ARGUMENT),
            method("int probes", 2, BOUNDS, ARGUMENT),
            method("int plainProbes", 2, BOUNDS, ARGUMENT),
            method("int place", 2, BOUNDS, ARGUMENT),
            method("int leastOnPath", 2, BOUNDS, ARGUMENT),
            method("int nearestOnPath", 2, BOUNDS, ARGUMENT),
            method("int worst", 1, BOUNDS),
            method("int nodes", 0),
            method("int node", 2, BOUNDS, ARGUMENT),
            method("int key", 2, BOUNDS, ARGUMENT),
            method("int baseKey", 2, BOUNDS, ARGUMENT),
            method("int bufferKey", 2, BOUNDS, ARGUMENT),
            method("int entry", 3, BOUNDS, ARGUMENT),
            method("int bridge", 3, BOUNDS, ARGUMENT),
            method("int count", 1, ARGUMENT),
            method("int undo", 0, STATE),
            method("long digest", 0)));
        hidden();
        check.end();
    }

    private static String method(String name, int parameters, String... exceptions) {
        String types = String.join(", ", java.util.Collections.nCopies(parameters, "int"));
        String face = "public " + name + "(" + types + ")";
        return exceptions.length == 0 ? face : face + " throws " + String.join(", ", exceptions);
    }

    private static List<String> sorted(String... texts) {
        return new ArrayList<>(new TreeSet<>(Arrays.asList(texts)));
    }

    private static List<String> methods() {
        TreeSet<String> found = new TreeSet<>();
        for (Method method : FACE.getDeclaredMethods()) {
            if (!Modifier.isPrivate(method.getModifiers())) {
                found.add(method.toGenericString().replace("BridgedCatalogs.", "")
                    .replace("java.lang.", "").replaceAll(",(?=\\S)", ", "));
            }
        }
        return new ArrayList<>(found);
    }

    private static List<String> constructors() {
        List<String> found = new ArrayList<>();
        for (Constructor<?> constructor : FACE.getDeclaredConstructors()) {
            found.add(constructor.toGenericString());
        }
        return found;
    }

    private static List<String> constants() {
        TreeSet<String> found = new TreeSet<>();
        for (Field field : FACE.getDeclaredFields()) {
            if (Modifier.isPrivate(field.getModifiers())) {
                continue;
            }
            check.same("modifiers of " + field.getName(), Modifier.toString(field.getModifiers()),
                "public static final");
            try {
                found.add(field.getName() + "=" + field.getInt(null));
            } catch (IllegalAccessException e) {
                throw new AssertionError(e);
            }
        }
        return new ArrayList<>(found);
    }

    /** Private methods bear no public name, and classes inside are private, static and final. */
    private static void hidden() {
        TreeSet<String> names = new TreeSet<>();
        for (Method method : FACE.getMethods()) {
            names.add(method.getName());
        }
        List<Method> inner = new ArrayList<>(Arrays.asList(FACE.getDeclaredMethods()));
        inner.removeIf(method -> Modifier.isPublic(method.getModifiers()));
        for (Class<?> inside : FACE.getDeclaredClasses()) {
            check.same(inside.getName(), Modifier.toString(inside.getModifiers()),
                "private static final");
            inner.addAll(Arrays.asList(inside.getDeclaredMethods()));
        }
        for (Method method : inner) {
            check.same(method + " bears a public name", names.contains(method.getName()), false);
        }
        check.same("more than twelve classes", FACE.getDeclaredClasses().length > 12, false);
    }
}
