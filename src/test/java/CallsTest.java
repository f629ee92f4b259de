import com.sun.source.tree.ArrayAccessTree;
import com.sun.source.tree.AssignmentTree;
import com.sun.source.tree.CompilationUnitTree;
import com.sun.source.tree.CompoundAssignmentTree;
import com.sun.source.tree.DoWhileLoopTree;
import com.sun.source.tree.ExpressionTree;
import com.sun.source.tree.ForLoopTree;
import com.sun.source.tree.MethodInvocationTree;
import com.sun.source.tree.MethodTree;
import com.sun.source.tree.NewArrayTree;
import com.sun.source.tree.NewClassTree;
import com.sun.source.tree.Tree;
import com.sun.source.tree.TypeCastTree;
import com.sun.source.tree.UnaryTree;
import com.sun.source.tree.WhileLoopTree;
import com.sun.source.util.JavacTask;
import com.sun.source.util.TreePathScanner;
import com.sun.source.util.Trees;
import java.io.IOException;
import java.nio.file.Path;
import java.util.ArrayList;
import java.util.HashSet;
import java.util.LinkedHashMap;
import java.util.LinkedHashSet;
import java.util.List;
import java.util.Map;
import java.util.Set;
import javax.lang.model.element.Element;
import javax.lang.model.element.ElementKind;
import javax.lang.model.element.ExecutableElement;
import javax.lang.model.element.Modifier;
import javax.lang.model.element.VariableElement;
import javax.lang.model.type.TypeKind;
import javax.tools.JavaCompiler;
import javax.tools.StandardJavaFileManager;
import javax.tools.ToolProvider;

/**
 * What of LANGUAGE.md can be seen by who calls whom: how deep calls go and that none goes in a ring (rules 8, 11), what
 * of the library they use (4), that only constructors make objects (12), that the constant rows are never changed (5).
 */
public final class CallsTest extends TreePathScanner<Void, Void> {
    private static final Path FILE = Path.of("src/main/java/PrizeDesk.java");
    private static final int DEEPEST = 8;
    private static final Set<String> LIBRARY = Set.of("Integer.bitCount", "Math.max", "Math.min");

    private final Check check;
    private final Trees trees;
    private final Map<Element, Set<Element>> calls = new LinkedHashMap<>();
    private final Map<Element, Set<Element>> handedOn = new LinkedHashMap<>();
    private final Set<Element> changed = new HashSet<>();
    private final Map<Element, Integer> depths = new LinkedHashMap<>();
    private Element method = null;

    private CallsTest(Check check, Trees trees) {
        this.check = check;
        this.trees = trees;
    }

    public static void main(String[] args) throws IOException {
        Check check = new Check();
        check.in(FILE.toString());
        JavaCompiler compiler = ToolProvider.getSystemJavaCompiler();
        if (compiler == null) {
            check.fail("is not looked at: this java has no compiler");
            check.end();
            return;
        }
        try (StandardJavaFileManager files = compiler.getStandardFileManager(null, null, null)) {
            JavacTask task = (JavacTask) compiler.getTask(null, files, null, List.of("-proc:none"), null,
                    files.getJavaFileObjects(FILE));
            List<CompilationUnitTree> units = new ArrayList<>();
            task.parse().forEach(units::add);
            task.analyze();
            CallsTest scanner = new CallsTest(check, Trees.instance(task));
            scanner.scan(units, null);
            scanner.report();
        }
        check.end();
    }

    private void report() {
        check.due("the methods were read", calls.size() > 21, true);
        for (Element each : calls.keySet()) {
            int depth = depthOf(each, new LinkedHashSet<>());
            if (depth > DEEPEST) {
                check.fail(each + " opens " + depth + " calls at once");
            }
        }
        handedOn.forEach((row, places) -> {
            if (isConstantRow(row) && reachesChange(row, new HashSet<>())) {
                check.fail("the constant row " + row + " is handed to a method that changes it");
            }
        });
        for (Element each : changed) {
            if (isConstantRow(each)) {
                check.fail("the constant row " + each + " is changed");
            }
        }
    }

    /** The calls that stand open at once below a method, itself counted. */
    private int depthOf(Element each, Set<Element> open) {
        if (depths.containsKey(each)) {
            return depths.get(each);
        }
        if (!open.add(each)) {
            check.fail(each + " calls itself by " + open);
            return 0;
        }
        int deepest = 0;
        for (Element called : calls.getOrDefault(each, Set.of())) {
            deepest = Math.max(deepest, depthOf(called, open));
        }
        open.remove(each);
        depths.put(each, deepest + 1);
        return deepest + 1;
    }

    private boolean reachesChange(Element row, Set<Element> been) {
        if (!been.add(row)) {
            return false;
        }
        return changed.contains(row)
                || handedOn.getOrDefault(row, Set.of()).stream().anyMatch(next -> reachesChange(next, been));
    }

    private static boolean isConstantRow(Element row) {
        return row.getKind() == ElementKind.FIELD && row.getModifiers().contains(Modifier.STATIC)
                && row.asType().getKind() == TypeKind.ARRAY;
    }

    private Element elementOf(Tree tree) {
        return trees.getElement(trees.getPath(getCurrentPath().getCompilationUnit(), tree));
    }

    private void noteChange(Tree target) {
        if (target instanceof ArrayAccessTree access) {
            Element row = elementOf(access.getExpression());
            if (row == null) {
                check.fail("changes a row without a name: " + target);
            } else {
                changed.add(row);
            }
        }
    }

    private void outside(String what, Tree tree) {
        check.fail(what + " in " + method + ": " + tree);
    }

    @Override
    public Void visitMethod(MethodTree tree, Void none) {
        method = elementOf(tree);
        calls.put(method, new LinkedHashSet<>());
        super.visitMethod(tree, none);
        method = null;
        return null;
    }

    @Override
    public Void visitMethodInvocation(MethodInvocationTree tree, Void none) {
        ExecutableElement called = (ExecutableElement) elementOf(tree.getMethodSelect());
        String name = called.getEnclosingElement().getSimpleName() + "." + called.getSimpleName();
        boolean isOwn = called.getEnclosingElement().toString().startsWith("PrizeDesk");
        if (isOwn) {
            calls.get(method).add(called);
            noteHandedOn(tree.getArguments(), called.getParameters());
        } else if (called.getKind() != ElementKind.CONSTRUCTOR && !LIBRARY.contains(name)) {
            outside("the library's " + name, tree);
        }
        return super.visitMethodInvocation(tree, none);
    }

    private void noteHandedOn(List<? extends ExpressionTree> arguments, List<? extends VariableElement> places) {
        for (int i = 0; i < arguments.size() && i < places.size(); i++) {
            Element row = elementOf(arguments.get(i));
            if (row != null && row.asType().getKind() == TypeKind.ARRAY) {
                handedOn.computeIfAbsent(row, key -> new HashSet<>()).add(places.get(i));
            }
        }
    }

    @Override
    public Void visitNewClass(NewClassTree tree, Void none) {
        Element made = elementOf(tree);
        if (method == null || method.getKind() != ElementKind.CONSTRUCTOR) {
            outside("an object made", tree);
        } else {
            calls.get(method).add(made);
        }
        return super.visitNewClass(tree, none);
    }

    @Override
    public Void visitNewArray(NewArrayTree tree, Void none) {
        if (method != null && method.getKind() != ElementKind.CONSTRUCTOR) {
            outside("a row made", tree);
        }
        return super.visitNewArray(tree, none);
    }

    @Override
    public Void visitForLoop(ForLoopTree tree, Void none) {
        if (tree.getCondition() == null || tree.getUpdate().isEmpty()) {
            outside("a loop without an end", tree);
        }
        return super.visitForLoop(tree, none);
    }

    @Override
    public Void visitWhileLoop(WhileLoopTree tree, Void none) {
        outside("a loop without a counter", tree);
        return super.visitWhileLoop(tree, none);
    }

    @Override
    public Void visitDoWhileLoop(DoWhileLoopTree tree, Void none) {
        outside("a loop without a counter", tree);
        return super.visitDoWhileLoop(tree, none);
    }

    @Override
    public Void visitTypeCast(TypeCastTree tree, Void none) {
        outside("a cast", tree);
        return super.visitTypeCast(tree, none);
    }

    @Override
    public Void visitAssignment(AssignmentTree tree, Void none) {
        noteChange(tree.getVariable());
        return super.visitAssignment(tree, none);
    }

    @Override
    public Void visitCompoundAssignment(CompoundAssignmentTree tree, Void none) {
        noteChange(tree.getVariable());
        return super.visitCompoundAssignment(tree, none);
    }

    @Override
    public Void visitUnary(UnaryTree tree, Void none) {
        Tree.Kind kind = tree.getKind();
        if (kind == Tree.Kind.POSTFIX_INCREMENT || kind == Tree.Kind.POSTFIX_DECREMENT
                || kind == Tree.Kind.PREFIX_INCREMENT || kind == Tree.Kind.PREFIX_DECREMENT) {
            noteChange(tree.getExpression());
        }
        return super.visitUnary(tree, none);
    }
}
