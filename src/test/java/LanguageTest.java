import com.sun.source.tree.AssertTree;
import com.sun.source.tree.BinaryTree;
import com.sun.source.tree.BlockTree;
import com.sun.source.tree.CaseTree;
import com.sun.source.tree.ClassTree;
import com.sun.source.tree.CompoundAssignmentTree;
import com.sun.source.tree.IdentifierTree;
import com.sun.source.tree.InstanceOfTree;
import com.sun.source.tree.LambdaExpressionTree;
import com.sun.source.tree.LiteralTree;
import com.sun.source.tree.MemberReferenceTree;
import com.sun.source.tree.MemberSelectTree;
import com.sun.source.tree.MethodInvocationTree;
import com.sun.source.tree.MethodTree;
import com.sun.source.tree.NewArrayTree;
import com.sun.source.tree.NewClassTree;
import com.sun.source.tree.SynchronizedTree;
import com.sun.source.tree.ThrowTree;
import com.sun.source.tree.Tree;
import com.sun.source.tree.TryTree;
import com.sun.source.tree.TypeCastTree;
import com.sun.source.tree.VariableTree;
import com.sun.source.util.TreePath;
import java.io.IOException;
import java.nio.file.Files;
import java.nio.file.Path;
import java.util.HashSet;
import java.util.List;
import java.util.Set;
import javax.lang.model.element.Element;
import javax.lang.model.element.ElementKind;
import javax.lang.model.element.Modifier;
import javax.lang.model.element.VariableElement;
import javax.lang.model.type.TypeKind;

/**
 * The rules of LANGUAGE.md, looked for in the program as the compiler reads it. Where a rule allows
 * what the program has no need of (lambdas aside, say catches or casts), none of it may be there,
 * so that the test stays simple. FaceTest looks at the rest of rule 1, SafetyTest at rules 7 to 9.
 */
public final class LanguageTest {
    static final String PROGRAM = "src/main/java/BridgedCatalogs.java";

    private static final Check check = new Check("LanguageTest");
    private static Source source;

    public static void main(String[] arguments) throws IOException {
        String file = arguments.length > 0 ? arguments[0] : PROGRAM;
        source = new Source(file);
        oneClass();
        innerClasses();
        types();
        library();
        texts(Files.readString(Path.of(file)));
        staticFields();
        thrown();
        nothingOf();
        objects();
        operators();
        sizes();
        madeInConstructors();
        check.end();
    }

    /** That there is nothing of what these paths lead to. */
    private static void none(String rule, List<TreePath> found) {
        check.same(rule, found.stream().map(source::place).toList(), List.of());
    }

    private static void allowed(String rule, TreePath path, boolean allowed) {
        check.same(rule + ": " + source.place(path), allowed, true);
    }

    // ---- rules 1 and 2: the classes

    private static void oneClass() {
        check.same("rule 1: no package", source.file().getPackage() == null, true);
        check.same("rule 4: no import", source.file().getImports().size(), 0);
        check.same("rule 1: one public class", source.file().getTypeDecls().size(), 1);
    }

    private static void innerClasses() {
        List<TreePath> classes = source.all(ClassTree.class);
        check.same("rule 11: at most twelve classes", classes.size() <= 12, true);
        for (TreePath path : classes.subList(1, classes.size())) {
            Set<Modifier> modifiers = ((ClassTree) path.getLeaf()).getModifiers().getFlags();
            allowed("rule 2: a static class inside", path,
                modifiers.contains(Modifier.STATIC) && modifiers.contains(Modifier.PRIVATE)
                    && path.getParentPath().getLeaf() instanceof ClassTree);
        }
        none("rule 2: no lambda", source.all(LambdaExpressionTree.class));
        none("rule 2: no method reference", source.all(MemberReferenceTree.class));
    }

    // ---- rules 3 and 4: types and the library

    private static void types() {
        for (TreePath path : source.all(VariableTree.class)) {
            Tree type = ((VariableTree) path.getLeaf()).getType();
            allowed("rule 3: the type", path, type != null && isAllowed(Source.part(path, type)));
        }
        for (TreePath path : source.all(MethodTree.class)) {
            Tree type = ((MethodTree) path.getLeaf()).getReturnType();
            allowed("rule 3: the type", path, type == null || isAllowed(Source.part(path, type)));
        }
    }

    /** Numbers, own classes, and rows of these. */
    private static boolean isAllowed(TreePath type) {
        String name = source.type(type).toString().replaceFirst("\\[\\]$", "");
        return List.of("int", "long", "boolean", "void").contains(name)
            || name.matches("BridgedCatalogs(\\.\\w+)?");
    }

    private static void library() {
        Set<String> used = new HashSet<>();
        for (TreePath path : source.all(MethodInvocationTree.class)) {
            Element method = source.element(path);
            if (!source.isOwn(method) && method.getKind() == ElementKind.METHOD) {
                used.add(method.getEnclosingElement() + "." + method);
            }
        }
        used.removeAll(List.of("java.lang.Math.min(int,int)", "java.lang.Math.max(int,int)",
            "java.lang.System.arraycopy(java.lang.Object,int,java.lang.Object,int,int)"));
        check.same("rule 4: calls of the library", used, Set.of());
        for (TreePath path : source.all(MemberSelectTree.class)) {
            Element member = source.element(path);
            boolean field = member.getKind() == ElementKind.FIELD;
            allowed("rule 4: the field", path, !field || source.isOwn(member)
                || member.getSimpleName().contentEquals("length"));
        }
    }

    private static void texts(String text) {
        boolean plain = text.chars().allMatch(sign -> sign == '\n' || sign >= 32 && sign < 127);
        check.same("rule 4: only the signs 1 to 127", plain, true);
    }

    // ---- rule 5: static state

    private static void staticFields() {
        int constants = 0;
        for (TreePath path : source.all(VariableTree.class)) {
            VariableElement variable = (VariableElement) source.element(path);
            if (variable.getModifiers().contains(Modifier.STATIC)) {
                allowed("rule 5: a constant", path, variable.getConstantValue() != null);
                constants++;
            }
        }
        check.same("rule 5: there are constants", constants > 0, true);
        for (TreePath path : source.all(BlockTree.class)) {
            allowed("rule 5: no initialiser block", path,
                !(path.getParentPath().getLeaf() instanceof ClassTree));
        }
    }

    // ---- rule 6: exceptions

    private static void thrown() {
        Set<String> kinds = new HashSet<>();
        for (TreePath path : source.all(ThrowTree.class)) {
            Tree what = ((ThrowTree) path.getLeaf()).getExpression();
            allowed("rule 6: throw new", path, what instanceof NewClassTree);
            if (what instanceof NewClassTree) {
                NewClassTree made = (NewClassTree) what;
                boolean written = made.getArguments().isEmpty() || made.getArguments().size() == 1
                    && made.getArguments().get(0).getKind() == Tree.Kind.STRING_LITERAL;
                allowed("rule 6: a written text", path, written && made.getClassBody() == null);
                kinds.add(made.getIdentifier().toString());
            }
            MethodTree method = Source.methodOf(path);
            allowed("rule 6: not in a constructor", path,
                method != null && !Source.isConstructor(method));
        }
        check.same("rule 6: the document's exceptions", kinds, Set.of("IllegalStateException",
            "IllegalArgumentException", "IndexOutOfBoundsException"));
    }

    private static void nothingOf() {
        none("rule 6: no try", source.all(TryTree.class));
        none("rule 6: no synchronized", source.all(SynchronizedTree.class));
        none("rule 6: no assert", source.all(AssertTree.class));
        none("rules 6 and 7: no cast", source.all(TypeCastTree.class));
        none("rule 6: no instanceof", source.all(InstanceOfTree.class));
        for (TreePath path : source.all(CaseTree.class)) {
            CaseTree branch = (CaseTree) path.getLeaf();
            allowed("rules 6 and 10: a switch on numbers", path, branch.getBody() == null
                && branch.getExpressions().stream().allMatch(LiteralTree.class::isInstance));
        }
    }

    private static void objects() {
        List<String> names = List.of("equals", "hashCode", "toString", "getClass", "wait", "notify",
            "notifyAll", "clone", "finalize");
        for (TreePath path : source.all(MethodTree.class)) {
            String name = ((MethodTree) path.getLeaf()).getName().toString();
            allowed("rule 6: nothing of Object", path, !names.contains(name));
        }
    }

    // ---- rules 10 to 12

    private static void operators() {
        for (TreePath path : source.all(BinaryTree.class)) {
            TypeKind kind = source.type(path).getKind();
            allowed("rule 10: of numbers and truths", path, kind.isPrimitive());
            Tree left = ((BinaryTree) path.getLeaf()).getLeftOperand();
            allowed("rule 6: no text is compared", path,
                !source.type(Source.part(path, left)).toString().endsWith("String"));
        }
        for (TreePath path : source.all(CompoundAssignmentTree.class)) {
            allowed("rule 10: of numbers", path, source.type(path).getKind().isPrimitive());
        }
        for (TreePath path : source.all(IdentifierTree.class)) {
            String name = path.getLeaf().toString();
            allowed("rule 3: no floating numbers, no texts", path,
                !List.of("String", "StringBuilder", "Integer", "Long", "Object", "Thread", "Runtime")
                    .contains(name));
        }
    }

    private static void sizes() {
        for (TreePath path : source.all(MethodTree.class)) {
            MethodTree method = (MethodTree) path.getLeaf();
            allowed("rule 11: at most seven parameters", path, method.getParameters().size() <= 7);
            allowed("rule 11: at most sixty lines", path, source.lines(method) <= 60);
        }
        for (TreePath path : source.all(ClassTree.class)) {
            long fields = ((ClassTree) path.getLeaf()).getMembers().stream()
                .filter(member -> member instanceof VariableTree && !((VariableTree) member)
                    .getModifiers().getFlags().contains(Modifier.STATIC))
                .count();
            allowed("rule 11: at most twenty fields", path, fields <= 20);
        }
    }

    /** Stricter than rule 12: a call makes nothing but its exception. */
    private static void madeInConstructors() {
        for (TreePath path : source.all(NewClassTree.class)) {
            boolean thrown = path.getParentPath().getLeaf() instanceof ThrowTree;
            boolean own = source.isOwn(source.element(path));
            allowed("rule 12: made", path, thrown || own && isAtStart(path));
        }
        for (TreePath path : source.all(NewArrayTree.class)) {
            allowed("rule 12: made", path, isAtStart(path));
        }
    }

    /** In a constructor, or in the initialiser of a field. */
    private static boolean isAtStart(TreePath path) {
        MethodTree method = Source.methodOf(path);
        return method == null || Source.isConstructor(method);
    }
}
