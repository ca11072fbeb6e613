import java.util.ArrayList;
import java.util.List;
import java.util.Set;

/**
 * An object of the class that is asked as often as a test likes: before its 512 calls are used up,
 * it is made anew by the calls that changed it, as nothing is promised about later calls.
 */
final class Subject {
    /** So that many calls are left for reading. */
    static final int MOST_CHANGES = 400;

    private static final int MOST_CALLS = 512;
    private static final Set<String> CHANGING = Set.of("addNode", "add", "remove", "addSeries",
        "setSizes", "rebuild", "rebuildAll", "search", "undo");

    private record Change(String name, int[] arguments) { }

    private final List<Change> changes = new ArrayList<>();
    private BridgedCatalogs object = new BridgedCatalogs();
    private int calls;

    int changes() {
        return changes.size();
    }

    int value(String name, int... arguments) {
        return Integer.parseInt(answer(name, arguments));
    }

    String answer(String name, int... arguments) {
        if (calls == MOST_CALLS) {
            makeAnew();
        }
        calls++;
        String answer = Check.answer(object, name, arguments);
        if (CHANGING.contains(name) && !answer.startsWith("throws.")) {
            changes.add(new Change(name, arguments.clone()));
        }
        return answer;
    }

    private void makeAnew() {
        if (changes.size() >= MOST_CALLS) {
            throw new AssertionError("too many changes");
        }
        object = new BridgedCatalogs();
        for (Change change : changes) {
            Check.answer(object, change.name, change.arguments);
        }
        calls = changes.size();
    }
}
