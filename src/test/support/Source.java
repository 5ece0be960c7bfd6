import com.sun.source.tree.BinaryTree;
import com.sun.source.tree.ClassTree;
import com.sun.source.tree.CompilationUnitTree;
import com.sun.source.tree.MethodTree;
import com.sun.source.tree.Tree;
import com.sun.source.tree.VariableTree;
import com.sun.source.util.JavacTask;
import com.sun.source.util.SourcePositions;
import com.sun.source.util.TreePath;
import com.sun.source.util.TreeScanner;
import com.sun.source.util.Trees;
import java.io.File;
import java.io.IOException;
import java.util.ArrayList;
import java.util.List;
import java.util.Set;
import java.util.TreeSet;
import javax.lang.model.element.Element;
import javax.lang.model.element.VariableElement;
import javax.tools.JavaCompiler;
import javax.tools.StandardJavaFileManager;
import javax.tools.ToolProvider;

/** The class as the tree that javac makes of its source, with what each name in it stands for. */
public final class Source {
    private static final File FILE = new File("src/main/java/TarForms.java");

    public final CompilationUnitTree unit;
    private final Trees trees;

    public Source() throws IOException {
        JavaCompiler compiler = ToolProvider.getSystemJavaCompiler();
        StandardJavaFileManager files = compiler.getStandardFileManager(null, null, null);
        JavacTask task = (JavacTask) compiler.getTask(
            null, files, null, List.of("-proc:none"), null, files.getJavaFileObjects(FILE));
        unit = task.parse().iterator().next();
        task.analyze();
        trees = Trees.instance(task);
    }

    public Element element(Tree tree) {
        TreePath path = trees.getPath(unit, tree);
        return path == null ? null : trees.getElement(path);
    }

    /** Whether a term is a number that the compiler knows. */
    public boolean isConstant(Tree tree) {
        if (tree.getKind() == Tree.Kind.INT_LITERAL || tree.getKind() == Tree.Kind.LONG_LITERAL) {
            return true;
        }
        return element(tree) instanceof VariableElement v && v.getConstantValue() != null;
    }

    public long firstLine(Tree tree) {
        return unit.getLineMap().getLineNumber(trees.getSourcePositions().getStartPosition(unit, tree));
    }

    /** How many lines a tree has; 0 of what the compiler added itself. */
    public long lines(Tree tree) {
        SourcePositions positions = trees.getSourcePositions();
        long end = positions.getEndPosition(unit, tree);
        return end < 0 ? 0 : unit.getLineMap().getLineNumber(end) - firstLine(tree) + 1;
    }

    public Set<String> classNames() {
        Set<String> names = new TreeSet<>();
        new TreeScanner<Void, Void>() {
            @Override
            public Void visitClass(ClassTree c, Void none) {
                names.add(c.getSimpleName().toString());
                return super.visitClass(c, none);
            }
        }.scan(unit, null);
        return names;
    }

    /** What a method compares a term with, as rows of the kind and the other side. */
    public List<BinaryTree> comparisons(MethodTree method, String term) {
        List<BinaryTree> found = new ArrayList<>();
        new TreeScanner<Void, Void>() {
            @Override
            public Void visitBinary(BinaryTree b, Void none) {
                if (b.getLeftOperand().toString().equals(term)) {
                    found.add(b);
                }
                return super.visitBinary(b, none);
            }
        }.scan(method, null);
        return found;
    }

    /** Whether a method has a variable of its own of this name that begins at 0. */
    public boolean beginsAtZero(MethodTree method, String name) {
        boolean[] found = {false};
        new TreeScanner<Void, Void>() {
            @Override
            public Void visitVariable(VariableTree v, Void none) {
                boolean isIt = v.getName().contentEquals(name) && v.getInitializer() != null;
                found[0] |= isIt && v.getInitializer().toString().equals("0");
                return super.visitVariable(v, none);
            }
        }.scan(method, null);
        return found[0];
    }
}
