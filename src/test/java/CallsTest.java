import com.sun.source.tree.ClassTree;
import com.sun.source.tree.MethodInvocationTree;
import com.sun.source.tree.MethodTree;
import com.sun.source.tree.NewClassTree;
import com.sun.source.tree.Tree;
import com.sun.source.util.TreePath;
import java.io.IOException;
import java.util.ArrayList;
import java.util.HashMap;
import java.util.LinkedHashSet;
import java.util.List;
import java.util.Map;
import java.util.Set;
import javax.lang.model.element.Element;
import javax.lang.model.element.ElementKind;

/** Rules 8 and 11 of LANGUAGE.md: which methods call which; none calls itself, and none too deep. */
public final class CallsTest {
    private static final int DEEPEST = 8;

    private static final Check check = new Check("CallsTest");
    private static final Map<Element, Set<Element>> calls = new HashMap<>();
    private static Source source;

    public static void main(String[] arguments) throws IOException {
        source = new Source(arguments.length > 0 ? arguments[0] : LanguageTest.PROGRAM);
        gather(MethodInvocationTree.class);
        gather(NewClassTree.class);
        check.same("there are calls", calls.size() > 20, true);
        for (TreePath path : source.all(MethodTree.class)) {
            chain(new ArrayList<>(), source.element(path));
        }
        check.end();
    }

    private static void gather(Class<? extends Tree> kind) {
        for (TreePath path : source.all(kind)) {
            Element called = source.element(path);
            if (source.isOwn(called)) {
                calls.computeIfAbsent(caller(path), any -> new LinkedHashSet<>()).add(called);
            }
        }
    }

    /** A method, or the class whose fields are made by the call. */
    private static Element caller(TreePath path) {
        TreePath method = Source.enclosing(path, MethodTree.class);
        return source.element(method != null ? method : Source.enclosing(path, ClassTree.class));
    }

    private static void chain(List<Element> open, Element next) {
        if (open.contains(next)) {
            check.same("rule 8: no recursion", open + " " + next, "");
            return;
        }
        open.add(next);
        check.same("rule 11: calls go too deep: " + open, open.size() > DEEPEST, false);
        for (Element called : calls.getOrDefault(next, Set.of())) {
            chain(open, called);
        }
        if (next.getKind() == ElementKind.CONSTRUCTOR) {
            for (Element made : calls.getOrDefault(next.getEnclosingElement(), Set.of())) {
                chain(open, made);
            }
        }
        open.remove(open.size() - 1);
    }
}
