import com.sun.source.tree.BinaryTree;
import com.sun.source.tree.BlockTree;
import com.sun.source.tree.ClassTree;
import com.sun.source.tree.CompilationUnitTree;
import com.sun.source.tree.DoWhileLoopTree;
import com.sun.source.tree.ExpressionTree;
import com.sun.source.tree.ForLoopTree;
import com.sun.source.tree.MethodInvocationTree;
import com.sun.source.tree.MethodTree;
import com.sun.source.tree.NewClassTree;
import com.sun.source.tree.ParenthesizedTree;
import com.sun.source.tree.Tree;
import com.sun.source.tree.VariableTree;
import com.sun.source.tree.WhileLoopTree;
import com.sun.source.util.JavacTask;
import com.sun.source.util.TreePath;
import com.sun.source.util.TreePathScanner;
import com.sun.source.util.Trees;
import java.nio.file.Path;
import java.util.ArrayList;
import java.util.List;
import java.util.Map;
import java.util.Set;
import java.util.TreeMap;
import java.util.TreeSet;
import javax.lang.model.element.Element;
import javax.lang.model.element.ElementKind;
import javax.lang.model.element.Modifier;
import javax.lang.model.type.ArrayType;
import javax.lang.model.type.TypeKind;
import javax.lang.model.type.TypeMirror;
import javax.tools.JavaCompiler;
import javax.tools.StandardJavaFileManager;
import javax.tools.ToolProvider;

/** The rules of LANGUAGE.md that can be seen in the source, as the compiler reads it. */
public final class RulesTest extends TreePathScanner<Void, Void> {
    private static final Set<Tree.Kind> FORBIDDEN = Set.of(
        Tree.Kind.LAMBDA_EXPRESSION, Tree.Kind.MEMBER_REFERENCE, Tree.Kind.THROW, Tree.Kind.TRY,
        Tree.Kind.SYNCHRONIZED, Tree.Kind.ASSERT, Tree.Kind.IMPORT, Tree.Kind.PACKAGE, Tree.Kind.ANNOTATION);
    private static final Set<String> LIBRARY = Set.of(
        "java.lang.String.length", "java.lang.String.charAt", "java.lang.Integer.bitCount",
        "java.lang.Math.max", "java.lang.Math.min", "java.lang.System.arraycopy", "java.lang.Object.<init>");
    private static final Set<Tree.Kind> COMPARISONS = Set.of(
        Tree.Kind.LESS_THAN, Tree.Kind.LESS_THAN_EQUAL, Tree.Kind.GREATER_THAN, Tree.Kind.GREATER_THAN_EQUAL);
    private static final Set<Tree.Kind> EQUALITIES = Set.of(Tree.Kind.EQUAL_TO, Tree.Kind.NOT_EQUAL_TO);
    private static final int MOST_LINES = 60, MOST_PARAMETERS = 7, MOST_CALLS = 8;

    private final Trees trees;
    private final CompilationUnitTree unit;
    // From each method, by class and name, to those that it calls; those of the library, too.
    private final Map<String, Set<String>> calls = new TreeMap<>();
    private final Set<String> hidden = new TreeSet<>();
    private final Set<String> face = new TreeSet<>();

    private RulesTest(Trees trees, CompilationUnitTree unit) {
        this.trees = trees;
        this.unit = unit;
    }

    private void rule(int number, Tree where, boolean kept) {
        long line = unit.getLineMap().getLineNumber(start(where));
        Check.due("rule " + number + ", line " + line, kept ? 1 : 0, 1);
    }

    private long start(Tree tree) {
        return trees.getSourcePositions().getStartPosition(unit, tree);
    }

    private long end(Tree tree) {
        return trees.getSourcePositions().getEndPosition(unit, tree);
    }

    private TypeMirror typeOf(Tree tree) {
        return trees.getTypeMirror(new TreePath(getCurrentPath(), tree));
    }

    @Override
    public Void scan(Tree tree, Void nothing) {
        if (tree != null) {
            rule(tree.getKind() == Tree.Kind.LAMBDA_EXPRESSION ? 2 : 6, tree, !FORBIDDEN.contains(tree.getKind()));
        }
        return super.scan(tree, nothing);
    }

    @Override
    public Void visitClass(ClassTree tree, Void nothing) {
        TreePath above = getCurrentPath().getParentPath();
        boolean outer = above.getLeaf() instanceof CompilationUnitTree;
        rule(2, tree, outer || above.getLeaf() instanceof ClassTree);
        rule(2, tree, outer || tree.getModifiers().getFlags().contains(Modifier.STATIC));
        for (Tree member : tree.getMembers()) {
            rule(5, member, !(member instanceof BlockTree b) || !b.isStatic());
        }
        return super.visitClass(tree, nothing);
    }

    @Override
    public Void visitVariable(VariableTree tree, Void nothing) {
        Element variable = trees.getElement(getCurrentPath());
        rule(3, tree, isAllowed(variable.asType()));
        if (variable.getKind() == ElementKind.FIELD && variable.getModifiers().contains(Modifier.STATIC)) {
            rule(5, tree, variable.getModifiers().contains(Modifier.FINAL));
            rule(5, tree, variable.asType().getKind().isPrimitive());
        }
        return super.visitVariable(tree, nothing);
    }

    private static boolean isAllowed(TypeMirror type) {
        if (type instanceof ArrayType row) {
            return row.getComponentType().getKind() != TypeKind.ARRAY && isAllowed(row.getComponentType());
        }
        return type.getKind().isPrimitive() || type.toString().startsWith("WhoKnows.")
            || type.toString().equals("java.lang.String");
    }

    @Override
    public Void visitMethod(MethodTree tree, Void nothing) {
        Element method = trees.getElement(getCurrentPath());
        String name = nameOf(method);
        Check.due("only one method is called " + name, calls.containsKey(name) ? 2 : 1, 1);
        calls.put(name, new TreeSet<>());
        if (method.getModifiers().contains(Modifier.PRIVATE)) {
            hidden.add(name);
        }
        if (method.getModifiers().contains(Modifier.PUBLIC)) {
            face.add(name);
        }
        rule(3, tree, method.getKind() == ElementKind.CONSTRUCTOR || isVoidOrAllowed(tree.getReturnType()));
        rule(11, tree, tree.getParameters().size() <= MOST_PARAMETERS);
        long first = unit.getLineMap().getLineNumber(start(tree));
        long last = unit.getLineMap().getLineNumber(Math.max(start(tree), end(tree)));
        rule(11, tree, last - first + 1 <= MOST_LINES);
        return super.visitMethod(tree, nothing);
    }

    private boolean isVoidOrAllowed(Tree type) {
        return typeOf(type).getKind() == TypeKind.VOID || isAllowed(typeOf(type));
    }

    private static String nameOf(Element method) {
        return method.getEnclosingElement() + "." + method.getSimpleName();
    }

    @Override
    public Void visitMethodInvocation(MethodInvocationTree tree, Void nothing) {
        called(tree);
        return super.visitMethodInvocation(tree, nothing);
    }

    @Override
    public Void visitNewClass(NewClassTree tree, Void nothing) {
        rule(2, tree, tree.getClassBody() == null);
        called(tree);
        return super.visitNewClass(tree, nothing);
    }

    private void called(Tree tree) {
        String name = nameOf(trees.getElement(getCurrentPath()));
        rule(4, tree, name.startsWith("WhoKnows.") || LIBRARY.contains(name));
        TreePath path = getCurrentPath();
        while (path != null && !(path.getLeaf() instanceof MethodTree)) {
            path = path.getParentPath();
        }
        if (path != null) {
            calls.get(nameOf(trees.getElement(path))).add(name);
        }
    }

    @Override
    public Void visitBinary(BinaryTree tree, Void nothing) {
        boolean text = isText(tree.getLeftOperand()) || isText(tree.getRightOperand());
        rule(10, tree, !text || tree.getKind() != Tree.Kind.PLUS);
        rule(6, tree, !text || !EQUALITIES.contains(tree.getKind()));
        return super.visitBinary(tree, nothing);
    }

    private boolean isText(Tree tree) {
        return typeOf(tree).toString().equals("java.lang.String");
    }

    @Override
    public Void visitForLoop(ForLoopTree tree, Void nothing) {
        rule(9, tree, tree.getUpdate().size() == 1 && hasBound(tree.getCondition()));
        return super.visitForLoop(tree, nothing);
    }

    @Override
    public Void visitWhileLoop(WhileLoopTree tree, Void nothing) {
        rule(9, tree, hasBound(tree.getCondition()));
        return super.visitWhileLoop(tree, nothing);
    }

    @Override
    public Void visitDoWhileLoop(DoWhileLoopTree tree, Void nothing) {
        rule(9, tree, hasBound(tree.getCondition()));
        return super.visitDoWhileLoop(tree, nothing);
    }

    /** Whether one of the conditions that must all hold is a comparison. */
    private static boolean hasBound(ExpressionTree condition) {
        if (condition instanceof ParenthesizedTree p) {
            return hasBound(p.getExpression());
        }
        if (condition instanceof BinaryTree b && b.getKind() == Tree.Kind.CONDITIONAL_AND) {
            return hasBound(b.getLeftOperand()) || hasBound(b.getRightOperand());
        }
        return condition != null && COMPARISONS.contains(condition.getKind());
    }

    private Set<String> reachable(String from) {
        Set<String> out = new TreeSet<>();
        List<String> open = new ArrayList<>(calls.getOrDefault(from, Set.of()));
        while (!open.isEmpty()) {
            String next = open.remove(open.size() - 1);
            if (out.add(next)) {
                open.addAll(calls.getOrDefault(next, Set.of()));
            }
        }
        return out;
    }

    /** Methods that call one another count once each. */
    private int deepest(String from) {
        Set<String> knot = new TreeSet<>(Set.of(from));
        for (String other : reachable(from)) {
            if (reachable(other).contains(from)) {
                knot.add(other);
            }
        }
        int below = 0;
        for (String member : knot) {
            for (String next : calls.getOrDefault(member, Set.of())) {
                below = knot.contains(next) ? below : Math.max(below, deepest(next));
            }
        }
        return knot.size() + below;
    }

    private void lookAtCalls() {
        for (String method : calls.keySet()) {
            boolean recurs = reachable(method).contains(method);
            Check.due("rule 8: " + method, recurs && !hidden.contains(method) ? 1 : 0, 0);
        }
        for (String method : face) {
            int deep = deepest(method);
            Check.due("rule 11: calls of " + method + " go " + deep + " deep", deep <= MOST_CALLS ? 1 : 0, 1);
        }
    }

    public static void main(String[] args) throws Exception {
        JavaCompiler compiler = ToolProvider.getSystemJavaCompiler();
        try (StandardJavaFileManager files = compiler.getStandardFileManager(null, null, null)) {
            Path source = Path.of("src/main/java/WhoKnows.java");
            JavacTask task = (JavacTask) compiler.getTask(
                null, files, null, List.of("-proc:none"), null, files.getJavaFileObjects(source));
            CompilationUnitTree unit = task.parse().iterator().next();
            task.analyze();
            RulesTest test = new RulesTest(Trees.instance(task), unit);
            test.scan(unit, null);
            Check.due("the whole face was looked at", test.face.size(), 39);
            test.lookAtCalls();
        }
        Check.end();
    }
}
