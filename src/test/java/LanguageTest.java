import com.sun.source.tree.ArrayAccessTree;
import com.sun.source.tree.BinaryTree;
import com.sun.source.tree.BlockTree;
import com.sun.source.tree.ClassTree;
import com.sun.source.tree.CompoundAssignmentTree;
import com.sun.source.tree.DoWhileLoopTree;
import com.sun.source.tree.ExpressionTree;
import com.sun.source.tree.ForLoopTree;
import com.sun.source.tree.MethodInvocationTree;
import com.sun.source.tree.MethodTree;
import com.sun.source.tree.NewArrayTree;
import com.sun.source.tree.NewClassTree;
import com.sun.source.tree.Tree;
import com.sun.source.tree.Tree.Kind;
import com.sun.source.tree.TypeCastTree;
import com.sun.source.tree.VariableTree;
import com.sun.source.tree.WhileLoopTree;
import com.sun.source.util.TreePathScanner;
import java.io.IOException;
import java.util.HashMap;
import java.util.HashSet;
import java.util.List;
import java.util.Map;
import java.util.Set;
import javax.lang.model.element.Element;
import javax.lang.model.element.Modifier;

/**
 * The rules of LANGUAGE.md, by their numbers, looked up in the tree of the class's source. Where a
 * rule leaves more than the class uses (library, types), only what it uses is let through.
 */
public final class LanguageTest extends TreePathScanner<Void, Void> {
    private static final Set<Kind> FORBIDDEN = Set.of(
        Kind.THROW, Kind.TRY, Kind.CATCH, Kind.SYNCHRONIZED, Kind.ASSERT, Kind.LAMBDA_EXPRESSION,
        Kind.MEMBER_REFERENCE, Kind.IMPORT, Kind.PACKAGE);
    private static final Set<String> LIBRARY = Set.of(
        "java.lang.Math.min", "java.lang.Math.max", "java.lang.Math.abs", "java.lang.String.length",
        "java.lang.String.charAt", "java.lang.Object.<init>");
    private static final Set<String> TYPES = Set.of("int", "long", "byte", "boolean", "void", "String");
    private static final Set<String> STATIC_TYPES =
        Set.of("int", "long", "boolean", "char", "String", "int[]", "long[]", "char[]", "byte[]");
    private static final int DEEPEST = 8;

    private final Check check = new Check();
    private final Source source = new Source();
    private final Set<String> classes = source.classNames();
    private final Map<Element, Set<Element>> callees = new HashMap<>();
    private MethodTree method = null;

    private LanguageTest() throws IOException {
    }

    public static void main(String[] args) throws IOException {
        LanguageTest test = new LanguageTest();
        test.hold("11: at most twelve classes", test.source.unit, test.classes.size() <= 12);
        test.scan(test.source.unit, null);
        test.checkDepths();
        test.check.close();
    }

    private void hold(String rule, Tree tree, boolean holds) {
        check.isTrue("rule " + rule + ", line " + source.firstLine(tree), holds);
    }

    @Override
    public Void scan(Tree tree, Void none) {
        if (tree != null && FORBIDDEN.contains(tree.getKind())) {
            hold("2, 6: no " + tree.getKind(), tree, false);
        }
        return super.scan(tree, none);
    }

    @Override
    public Void visitClass(ClassTree c, Void none) {
        Tree around = getCurrentPath().getParentPath().getLeaf();
        boolean isStaticInside = around instanceof ClassTree && c.getModifiers().getFlags().contains(Modifier.STATIC);
        hold("2: a class inside is static", c, around == source.unit || isStaticInside);
        int fields = 0;
        for (Tree member : c.getMembers()) {
            hold("5: no initialiser block", member, !(member instanceof BlockTree));
            fields += member instanceof VariableTree v && !isStatic(v) ? 1 : 0;
        }
        hold("11: at most twenty fields", c, fields <= 20);
        return super.visitClass(c, none);
    }

    private static boolean isStatic(VariableTree v) {
        return v.getModifiers().getFlags().contains(Modifier.STATIC);
    }

    @Override
    public Void visitVariable(VariableTree v, Void none) {
        checkType(v.getType());
        if (isStatic(v)) {
            hold("5: a static field is final", v, v.getModifiers().getFlags().contains(Modifier.FINAL));
            hold("5: the type of a static field", v, STATIC_TYPES.contains(v.getType().toString()));
        }
        return super.visitVariable(v, none);
    }

    private void checkType(Tree type) {
        if (type != null) {
            String name = type.toString().replaceFirst("\\[\\]$", "");
            hold("3: the type " + name, type, TYPES.contains(name) || classes.contains(name));
        }
    }

    @Override
    public Void visitMethod(MethodTree m, Void none) {
        checkType(m.getReturnType());
        hold("11: at most seven parameters", m, m.getParameters().size() <= 7);
        hold("11: at most sixty lines", m, source.lines(m) <= 60);
        callees.put(source.element(m), new HashSet<>());
        method = m;
        super.visitMethod(m, none);
        method = null;
        return null;
    }

    // ---- what is called and made

    @Override
    public Void visitMethodInvocation(MethodInvocationTree call, Void none) {
        Element callee = source.element(call);
        String name = callee.getEnclosingElement() + "." + callee.getSimpleName();
        boolean isOwn = name.startsWith("TarForms");
        hold("4: " + name, call, isOwn || LIBRARY.contains(name));
        hold("8, 11: calls stand in methods alone", call, method != null);
        if (isOwn && method != null) {
            callees.get(source.element(method)).add(callee);
        }
        return super.visitMethodInvocation(call, none);
    }

    /** Recursion has no depth, so it is found here, too. */
    private void checkDepths() {
        for (Element each : callees.keySet()) {
            hold("8, 11: calls of " + each + " at most eight deep", source.unit, depth(each, 1) <= DEEPEST);
        }
    }

    private int depth(Element caller, int level) {
        int deepest = level;
        for (Element callee : callees.getOrDefault(caller, Set.of())) {
            deepest = Math.max(deepest, level > DEEPEST ? level : depth(callee, level + 1));
        }
        return deepest;
    }

    @Override
    public Void visitNewClass(NewClassTree n, Void none) {
        hold("12: objects are made in constructors", n, isInConstructor());
        hold("4: an own class", n, classes.contains(n.getIdentifier().toString()));
        return super.visitNewClass(n, none);
    }

    @Override
    public Void visitNewArray(NewArrayTree n, Void none) {
        hold("12: arrays are made in constructors", n, isInConstructor());
        return super.visitNewArray(n, none);
    }

    private boolean isInConstructor() {
        return method == null || method.getName().contentEquals("<init>");
    }

    // ---- what a machine could refuse

    @Override
    public Void visitTypeCast(TypeCastTree cast, Void none) {
        hold("6: casts among numbers alone", cast, TYPES.contains(cast.getType().toString()));
        return super.visitTypeCast(cast, none);
    }

    @Override
    public Void visitArrayAccess(ArrayAccessTree access, Void none) {
        String length = access.getExpression() + ".length";
        hold("7: an index is looked at: " + access, access, isTested(access.getIndex(), length));
        return super.visitArrayAccess(access, none);
    }

    /** Whether an index is a constant, or held between two, or compared on both sides in its method. */
    private boolean isTested(ExpressionTree index, String length) {
        if (source.isConstant(index)) {
            return true;
        }
        if (index instanceof MethodInvocationTree call && call.getMethodSelect().toString().equals("Math.min")) {
            List<? extends ExpressionTree> both = call.getArguments();
            return source.isConstant(both.get(1)) && both.get(0).toString().startsWith("Math.max(");
        }
        String term = index.toString();
        boolean below = false;
        boolean above = source.beginsAtZero(method, term);
        for (BinaryTree b : source.comparisons(method, term)) {
            boolean isStrict = b.getKind() == Kind.LESS_THAN || b.getKind() == Kind.GREATER_THAN_EQUAL;
            boolean isConstant = source.isConstant(b.getRightOperand());
            below |= isStrict && b.getRightOperand().toString().equals(length);
            below |= b.getKind() == Kind.GREATER_THAN && isConstant;
            above |= isStrict && isConstant;
        }
        return below && above;
    }

    @Override
    public Void visitBinary(BinaryTree b, Void none) {
        if (b.getKind() == Kind.DIVIDE || b.getKind() == Kind.REMAINDER) {
            checkDivisor(b.getRightOperand());
        }
        return super.visitBinary(b, none);
    }

    @Override
    public Void visitCompoundAssignment(CompoundAssignmentTree c, Void none) {
        if (c.getKind() == Kind.DIVIDE_ASSIGNMENT || c.getKind() == Kind.REMAINDER_ASSIGNMENT) {
            checkDivisor(c.getExpression());
        }
        return super.visitCompoundAssignment(c, none);
    }

    private void checkDivisor(Tree divisor) {
        boolean isTested = source.isConstant(divisor);
        for (BinaryTree b : source.comparisons(method, divisor.toString())) {
            isTested |= b.getKind() == Kind.GREATER_THAN && b.getRightOperand().toString().equals("0");
        }
        hold("7: a divisor is looked at: " + divisor, divisor, isTested);
    }

    // ---- loops

    @Override
    public Void visitForLoop(ForLoopTree loop, Void none) {
        checkLoop(loop, loop.getCondition());
        return super.visitForLoop(loop, none);
    }

    @Override
    public Void visitWhileLoop(WhileLoopTree loop, Void none) {
        checkLoop(loop, loop.getCondition());
        return super.visitWhileLoop(loop, none);
    }

    @Override
    public Void visitDoWhileLoop(DoWhileLoopTree loop, Void none) {
        checkLoop(loop, loop.getCondition());
        return super.visitDoWhileLoop(loop, none);
    }

    private void checkLoop(Tree loop, ExpressionTree condition) {
        boolean isBound = condition != null && condition.toString().matches("(?s).*(<|>|<=|>=).*");
        hold("9: a loop has a bound", loop, isBound);
    }
}
