import com.sun.source.tree.ArrayAccessTree;
import com.sun.source.tree.AssignmentTree;
import com.sun.source.tree.BinaryTree;
import com.sun.source.tree.BlockTree;
import com.sun.source.tree.CompoundAssignmentTree;
import com.sun.source.tree.ConditionalExpressionTree;
import com.sun.source.tree.DoWhileLoopTree;
import com.sun.source.tree.ExpressionTree;
import com.sun.source.tree.ForLoopTree;
import com.sun.source.tree.IdentifierTree;
import com.sun.source.tree.IfTree;
import com.sun.source.tree.LiteralTree;
import com.sun.source.tree.MemberSelectTree;
import com.sun.source.tree.MethodInvocationTree;
import com.sun.source.tree.MethodTree;
import com.sun.source.tree.NewArrayTree;
import com.sun.source.tree.ParenthesizedTree;
import com.sun.source.tree.ReturnTree;
import com.sun.source.tree.StatementTree;
import com.sun.source.tree.ThrowTree;
import com.sun.source.tree.Tree;
import com.sun.source.tree.Tree.Kind;
import com.sun.source.tree.UnaryTree;
import com.sun.source.tree.VariableTree;
import com.sun.source.tree.WhileLoopTree;
import com.sun.source.util.TreePath;
import java.io.IOException;
import java.util.ArrayList;
import java.util.HashSet;
import java.util.List;
import java.util.Set;
import javax.lang.model.element.Element;
import javax.lang.model.element.Modifier;
import javax.lang.model.element.VariableElement;

/**
 * Rules 7 and 9 of LANGUAGE.md: that each index, divisor, length and reference is tested before the
 * machine could throw because of it, and that each loop has an end that its own lines show.
 */
public final class SafetyTest {
    private static final Set<Kind> COMPARISONS = Set.of(Kind.LESS_THAN, Kind.LESS_THAN_EQUAL,
        Kind.GREATER_THAN, Kind.GREATER_THAN_EQUAL);

    private static final Check check = new Check("SafetyTest");
    private static Source source;
    // What may be null: local variables, and methods by what they answer.
    private static final Set<Element> nullable = new HashSet<>();

    public static void main(String[] arguments) throws IOException {
        source = new Source(arguments.length > 0 ? arguments[0] : LanguageTest.PROGRAM);
        indices();
        copies();
        lengths();
        divisors();
        references();
        loops();
        check.end();
    }

    private static void safe(String rule, TreePath path, boolean safe) {
        check.same(rule + ": " + source.place(path), safe, true);
    }

    // ---- indices, lengths and divisors

    private static void indices() {
        for (TreePath path : source.all(ArrayAccessTree.class)) {
            ArrayAccessTree access = (ArrayAccessTree) path.getLeaf();
            String index = access.getIndex().toString();
            List<String> holding = holdingAt(path);
            boolean tested = holding.contains(index + " >= 0")
                && holding.contains(index + " < " + access.getExpression() + ".length");
            safe("rule 7: the index is tested", path, tested || isFirstOfMany(path, access));
        }
    }

    /** The element 0 of a row that is made with a constant length above 0. */
    private static boolean isFirstOfMany(TreePath path, ArrayAccessTree access) {
        Element row = source.element(Source.part(path, access.getExpression()));
        for (TreePath field : source.all(VariableTree.class)) {
            Tree made = ((VariableTree) field.getLeaf()).getInitializer();
            if (source.element(field).equals(row) && made instanceof NewArrayTree) {
                Tree length = ((NewArrayTree) made).getDimensions().get(0);
                Object constant = constant(Source.part(field, length));
                return access.getIndex().toString().equals("0") && constant instanceof Integer
                    && (Integer) constant > 0;
            }
        }
        return false;
    }

    private static Object constant(TreePath path) {
        if (path.getLeaf() instanceof LiteralTree) {
            return ((LiteralTree) path.getLeaf()).getValue();
        }
        Element element = source.element(path);
        return element instanceof VariableElement
            ? ((VariableElement) element).getConstantValue() : null;
    }

    /** From 0 to 0, and not longer than either row. */
    private static void copies() {
        for (TreePath path : source.all(MethodInvocationTree.class)) {
            MethodInvocationTree call = (MethodInvocationTree) path.getLeaf();
            if (!call.getMethodSelect().toString().equals("System.arraycopy")) {
                continue;
            }
            List<String> given = call.getArguments().stream().map(Tree::toString).toList();
            String length = given.get(4);
            List<String> limits = List.of(initialiser(path, length).split("[(), ]+"));
            safe("rule 7: the copy begins at 0", path,
                given.get(1).equals("0") && given.get(3).equals("0"));
            safe("rule 7: the copy is within both rows", path,
                holdingAt(path).contains(length + " >= 0") && limits.contains("Math.min")
                    && limits.stream().allMatch(part -> part.matches("[A-Za-z][A-Za-z.]*"))
                    && limits.contains(given.get(0) + ".length")
                    && limits.contains(given.get(2) + ".length"));
        }
    }

    private static String initialiser(TreePath path, String variable) {
        for (TreePath found : source.within(VariableTree.class, Source.methodOf(path))) {
            VariableTree local = (VariableTree) found.getLeaf();
            if (local.getName().contentEquals(variable) && local.getInitializer() != null) {
                return local.getInitializer().toString();
            }
        }
        return "";
    }

    private static void lengths() {
        for (TreePath path : source.all(NewArrayTree.class)) {
            for (ExpressionTree length : ((NewArrayTree) path.getLeaf()).getDimensions()) {
                Object constant = constant(Source.part(path, length));
                boolean tested = length.toString().matches("(\\w+) > 0 \\? \\1 : 0");
                safe("rule 7: the length is tested", path,
                    tested || constant instanceof Integer && (Integer) constant >= 0);
            }
        }
    }

    private static void divisors() {
        int divided = 0;
        for (TreePath path : source.all(BinaryTree.class)) {
            if (Set.of(Kind.DIVIDE, Kind.REMAINDER).contains(path.getLeaf().getKind())) {
                divisor(path, ((BinaryTree) path.getLeaf()).getRightOperand());
                divided++;
            }
        }
        for (TreePath path : source.all(CompoundAssignmentTree.class)) {
            Kind kind = path.getLeaf().getKind();
            if (Set.of(Kind.DIVIDE_ASSIGNMENT, Kind.REMAINDER_ASSIGNMENT).contains(kind)) {
                divisor(path, ((CompoundAssignmentTree) path.getLeaf()).getExpression());
            }
        }
        check.same("there are divisors", divided > 0, true);
    }

    private static void divisor(TreePath path, Tree by) {
        safe("rule 7: the divisor is not 0", path, by.toString().matches("[1-9][0-9]*"));
    }

    // ---- what holds at a place

    /** The conditions that hold where this path leads to. */
    private static List<String> holdingAt(TreePath path) {
        List<String> holding = new ArrayList<>();
        TreePath here = path;
        while (here.getParentPath() != null) {
            Tree child = here.getLeaf();
            here = here.getParentPath();
            addHolding(holding, here.getLeaf(), child);
        }
        return holding;
    }

    private static void addHolding(List<String> holding, Tree outer, Tree part) {
        if (outer instanceof ConditionalExpressionTree
            && part == ((ConditionalExpressionTree) outer).getTrueExpression()) {
            split(holding, ((ConditionalExpressionTree) outer).getCondition(), Kind.CONDITIONAL_AND);
        } else if (outer.getKind() == Kind.CONDITIONAL_AND
            && part == ((BinaryTree) outer).getRightOperand()) {
            split(holding, ((BinaryTree) outer).getLeftOperand(), Kind.CONDITIONAL_AND);
        } else if (outer instanceof IfTree && part == ((IfTree) outer).getThenStatement()) {
            split(holding, ((IfTree) outer).getCondition(), Kind.CONDITIONAL_AND);
        } else if (outer instanceof WhileLoopTree && part == ((WhileLoopTree) outer).getStatement()) {
            split(holding, ((WhileLoopTree) outer).getCondition(), Kind.CONDITIONAL_AND);
        } else if (outer instanceof ForLoopTree && part == ((ForLoopTree) outer).getStatement()) {
            split(holding, ((ForLoopTree) outer).getCondition(), Kind.CONDITIONAL_AND);
            countedUp(holding, (ForLoopTree) outer);
        }
    }

    /** The parts of a condition that are joined by && or by ||. */
    private static void split(List<String> parts, Tree condition, Kind joint) {
        if (condition instanceof ParenthesizedTree) {
            split(parts, ((ParenthesizedTree) condition).getExpression(), joint);
        } else if (condition.getKind() == joint) {
            split(parts, ((BinaryTree) condition).getLeftOperand(), joint);
            split(parts, ((BinaryTree) condition).getRightOperand(), joint);
        } else {
            parts.add(condition.toString());
        }
    }

    /** A counter that begins with a number and goes up by one is never negative. */
    private static void countedUp(List<String> holding, ForLoopTree loop) {
        for (StatementTree start : loop.getInitializer()) {
            String text = start.toString();
            if (text.matches("int \\w+ = \\d+")) {
                String counter = ((VariableTree) start).getName().toString();
                if (loop.getUpdate().toString().equals(counter + "++;")) {
                    holding.add(counter + " >= 0");
                }
            }
        }
    }

    // ---- references

    private static void references() {
        for (TreePath path : source.all(VariableTree.class)) {
            Element variable = source.element(path);
            boolean number = variable.asType().getKind().isPrimitive();
            boolean field = variable.getKind().isField();
            safe("rule 7: a reference that stays", path,
                number || !field || variable.getModifiers().contains(Modifier.FINAL));
            safe("rule 7: a local reference begins with a value", path, number || field
                || Source.methodOf(path).getParameters().contains(path.getLeaf())
                || ((VariableTree) path.getLeaf()).getInitializer() != null);
        }
        int known = -1;
        while (known < nullable.size()) {
            known = nullable.size();
            findNullable();
        }
        check.same("rule 7: what may be null is known", nullable.size() > 0, true);
        uses();
    }

    private static void findNullable() {
        for (TreePath path : source.all(VariableTree.class)) {
            Tree start = ((VariableTree) path.getLeaf()).getInitializer();
            if (start != null && mayBeNull(Source.part(path, start))) {
                nullable.add(source.element(path));
            }
        }
        for (TreePath path : source.all(AssignmentTree.class)) {
            AssignmentTree given = (AssignmentTree) path.getLeaf();
            if (mayBeNull(Source.part(path, given.getExpression()))) {
                nullable.add(source.element(Source.part(path, given.getVariable())));
            }
        }
        for (TreePath path : source.all(ReturnTree.class)) {
            Tree answer = ((ReturnTree) path.getLeaf()).getExpression();
            if (answer != null && mayBeNull(Source.part(path, answer))) {
                nullable.add(source.element(Source.enclosing(path, MethodTree.class)));
            }
        }
    }

    private static boolean mayBeNull(TreePath path) {
        Tree value = path.getLeaf();
        if (value instanceof ParenthesizedTree) {
            return mayBeNull(new TreePath(path, ((ParenthesizedTree) value).getExpression()));
        }
        if (value instanceof ConditionalExpressionTree) {
            ConditionalExpressionTree either = (ConditionalExpressionTree) value;
            return mayBeNull(new TreePath(path, either.getTrueExpression()))
                || mayBeNull(new TreePath(path, either.getFalseExpression()));
        }
        if (value instanceof ArrayAccessTree) {
            return !source.type(path).getKind().isPrimitive();
        }
        if (value instanceof MethodInvocationTree) {
            return nullable.contains(source.element(path));
        }
        if (value instanceof IdentifierTree || value instanceof MemberSelectTree) {
            Element named = source.element(path);
            return named instanceof VariableElement && nullable.contains(named) && !isTested(path);
        }
        return value.getKind() == Kind.NULL_LITERAL;
    }

    /** What may be null is compared with null, kept in a local variable or returned; no more. */
    private static void uses() {
        for (Class<? extends Tree> kind : List.of(IdentifierTree.class, MemberSelectTree.class,
            MethodInvocationTree.class, ArrayAccessTree.class, LiteralTree.class)) {
            for (TreePath path : source.all(kind)) {
                if (mayBeNull(path) && !isWritten(path)) {
                    safe("rule 7: a reference that may be null", path, isHarmless(path));
                }
            }
        }
    }

    private static boolean isWritten(TreePath path) {
        Tree outer = path.getParentPath().getLeaf();
        return outer instanceof AssignmentTree
            && ((AssignmentTree) outer).getVariable() == path.getLeaf();
    }

    private static boolean isHarmless(TreePath path) {
        TreePath outer = path.getParentPath();
        Tree leaf = outer.getLeaf();
        if (leaf instanceof ParenthesizedTree || leaf instanceof ConditionalExpressionTree) {
            return isHarmless(outer);
        }
        boolean compared = leaf.getKind() == Kind.EQUAL_TO || leaf.getKind() == Kind.NOT_EQUAL_TO;
        boolean local = leaf instanceof VariableTree && !source.element(outer).getKind().isField();
        return compared || local || leaf instanceof ReturnTree;
    }

    /** Whether it is known here not to be null. */
    private static boolean isTested(TreePath path) {
        String name = path.getLeaf().toString();
        if (holdingAt(path).contains(name + " != null")) {
            return true;
        }
        TreePath here = path;
        while (!(here.getParentPath().getLeaf() instanceof MethodTree)) {
            Tree child = here.getLeaf();
            here = here.getParentPath();
            if (here.getLeaf() instanceof BlockTree
                && leavesForNull(((BlockTree) here.getLeaf()).getStatements(), child, name)) {
                return true;
            }
        }
        return false;
    }

    /** Whether an if before this statement has left the method where the name is null. */
    private static boolean leavesForNull(List<? extends StatementTree> statements, Tree before,
            String name) {
        for (StatementTree statement : statements.subList(0, statements.indexOf(before))) {
            if (statement instanceof IfTree) {
                List<String> parts = new ArrayList<>();
                split(parts, ((IfTree) statement).getCondition(), Kind.CONDITIONAL_OR);
                if (parts.contains(name + " == null") && leaves((IfTree) statement)) {
                    return true;
                }
            }
        }
        return false;
    }

    private static boolean leaves(IfTree test) {
        if (!(test.getThenStatement() instanceof BlockTree)) {
            return false;
        }
        List<? extends StatementTree> block = ((BlockTree) test.getThenStatement()).getStatements();
        StatementTree last = block.isEmpty() ? null : block.get(block.size() - 1);
        return last instanceof ReturnTree || last instanceof ThrowTree;
    }

    // ---- loops

    private static void loops() {
        int loops = 0;
        for (TreePath path : source.all(StatementTree.class)) {
            Tree loop = path.getLeaf();
            if (loop instanceof ForLoopTree) {
                ends(path, ((ForLoopTree) loop).getCondition());
                loops++;
            } else if (loop instanceof WhileLoopTree) {
                ends(path, ((WhileLoopTree) loop).getCondition());
                loops++;
            } else if (loop instanceof DoWhileLoopTree) {
                ends(path, ((DoWhileLoopTree) loop).getCondition());
                loops++;
            }
        }
        check.same("there are loops", loops > 0, true);
    }

    /** One of the comparisons that let the loop go on has a counter that the loop moves. */
    private static void ends(TreePath path, Tree condition) {
        Set<String> moved = moved(path);
        boolean ends = false;
        for (TreePath part : condition == null ? List.<TreePath>of()
            : source.within(BinaryTree.class, condition)) {
            BinaryTree compared = (BinaryTree) part.getLeaf();
            if (COMPARISONS.contains(compared.getKind())) {
                ends |= moved.contains(compared.getLeftOperand().toString())
                    || moved.contains(compared.getRightOperand().toString());
            }
        }
        boolean joined = condition == null
            || source.within(BinaryTree.class, condition).stream()
                .anyMatch(part -> part.getLeaf().getKind() == Kind.CONDITIONAL_OR);
        safe("rule 9: the loop has an end", path, ends && !joined);
    }

    private static Set<String> moved(TreePath loop) {
        Set<String> moved = new HashSet<>();
        for (TreePath path : source.within(UnaryTree.class, loop.getLeaf())) {
            if (path.getLeaf().getKind().toString().matches("(POST|PRE)FIX_(IN|DE)CREMENT")) {
                moved.add(((UnaryTree) path.getLeaf()).getExpression().toString());
            }
        }
        for (TreePath path : source.within(AssignmentTree.class, loop.getLeaf())) {
            moved.add(((AssignmentTree) path.getLeaf()).getVariable().toString());
        }
        for (TreePath path : source.within(CompoundAssignmentTree.class, loop.getLeaf())) {
            moved.add(((CompoundAssignmentTree) path.getLeaf()).getVariable().toString());
        }
        return moved;
    }
}
