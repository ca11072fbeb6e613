import com.sun.source.tree.ClassTree;
import com.sun.source.tree.CompilationUnitTree;
import com.sun.source.tree.MethodTree;
import com.sun.source.tree.Tree;
import com.sun.source.util.JavacTask;
import com.sun.source.util.TreePath;
import com.sun.source.util.TreePathScanner;
import com.sun.source.util.Trees;
import java.io.File;
import java.io.IOException;
import java.util.ArrayList;
import java.util.List;
import javax.lang.model.element.Element;
import javax.lang.model.type.TypeMirror;
import javax.tools.JavaCompiler;
import javax.tools.StandardJavaFileManager;
import javax.tools.ToolProvider;

/** A Java file as its compiler reads it: each part of it, with what it stands for. */
final class Source {
    private final CompilationUnitTree file;
    private final Trees trees;
    private final List<TreePath> parts = new ArrayList<>();

    Source(String name) throws IOException {
        JavaCompiler compiler = ToolProvider.getSystemJavaCompiler();
        StandardJavaFileManager files = compiler.getStandardFileManager(null, null, null);
        JavacTask task = (JavacTask) compiler.getTask(null, files, null, List.of("-proc:none"), null,
            files.getJavaFileObjects(new File(name)));
        file = task.parse().iterator().next();
        task.analyze();
        trees = Trees.instance(task);
        new TreePathScanner<Void, Void>() {
            @Override
            public Void scan(Tree tree, Void nothing) {
                if (tree != null && trees.getSourcePositions().getEndPosition(file, tree) >= 0) {
                    parts.add(new TreePath(getCurrentPath(), tree));
                }
                return super.scan(tree, nothing);
            }
        }.scan(new TreePath(file), null);
    }

    CompilationUnitTree file() {
        return file;
    }

    /** The parts of this kind that are written in the file, in their order. */
    List<TreePath> all(Class<? extends Tree> kind) {
        return within(kind, null);
    }

    /** Those of them that lie inside of this one, or are it. */
    List<TreePath> within(Class<? extends Tree> kind, Tree outer) {
        List<TreePath> found = new ArrayList<>();
        for (TreePath path : parts) {
            if (kind.isInstance(path.getLeaf()) && (outer == null || isInside(path, outer))) {
                found.add(path);
            }
        }
        return found;
    }

    static boolean isInside(TreePath path, Tree outer) {
        for (Tree tree : path) {
            if (tree == outer) {
                return true;
            }
        }
        return false;
    }

    Element element(TreePath path) {
        return trees.getElement(path);
    }

    TypeMirror type(TreePath path) {
        return trees.getTypeMirror(path);
    }

    /** The path of a part of what this path leads to. */
    static TreePath part(TreePath path, Tree tree) {
        return TreePath.getPath(path, tree);
    }

    static TreePath enclosing(TreePath path, Class<? extends Tree> kind) {
        TreePath found = path.getParentPath();
        while (found != null && !kind.isInstance(found.getLeaf())) {
            found = found.getParentPath();
        }
        return found;
    }

    static MethodTree methodOf(TreePath path) {
        TreePath method = enclosing(path, MethodTree.class);
        return method == null ? null : (MethodTree) method.getLeaf();
    }

    static boolean isConstructor(MethodTree method) {
        return method.getName().contentEquals("<init>");
    }

    /** Whether the class that declares this element stands in the file. */
    boolean isOwn(Element element) {
        for (TreePath path : all(ClassTree.class)) {
            if (element(path).equals(element) || element(path).equals(element.getEnclosingElement())) {
                return true;
            }
        }
        return false;
    }

    long lines(Tree tree) {
        long from = trees.getSourcePositions().getStartPosition(file, tree);
        long to = trees.getSourcePositions().getEndPosition(file, tree);
        return file.getLineMap().getLineNumber(to) - file.getLineMap().getLineNumber(from) + 1;
    }

    /** Where it stands, and how it begins. */
    String place(TreePath path) {
        long from = trees.getSourcePositions().getStartPosition(file, path.getLeaf());
        String text = path.getLeaf().toString().replaceAll("\\s+", " ").trim();
        return "line " + file.getLineMap().getLineNumber(from) + ", "
            + text.substring(0, Math.min(60, text.length()));
    }
}
