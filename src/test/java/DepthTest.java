import com.sun.source.tree.*;
import com.sun.source.util.JavacTask;
import com.sun.source.util.TreePath;
import com.sun.source.util.TreePathScanner;
import com.sun.source.util.Trees;
import java.io.File;
import java.util.ArrayList;
import java.util.HashMap;
import java.util.HashSet;
import java.util.LinkedHashSet;
import java.util.List;
import java.util.Map;
import java.util.Set;
import javax.lang.model.element.Element;
import javax.lang.model.element.ExecutableElement;
import javax.tools.JavaCompiler;
import javax.tools.StandardJavaFileManager;
import javax.tools.ToolProvider;

/** The rules of LANGUAGE.md on how deep calls go (8 and 11), and that no loop makes an object (12). */
public final class DepthTest extends TreePathScanner<Void, Void> {
    private static final Checks C = new Checks("depth");
    private static final int MOST_DEEP = 8, MOST_OPEN_CALLS = 300, LEVELS = 11;

    private final Trees trees;
    private final Map<Element, Set<Element>> calls = new HashMap<>();
    private final Map<Element, Integer> depths = new HashMap<>();
    private final Set<Element> recursive = new LinkedHashSet<>();
    private Element caller;
    private int loops;

    private DepthTest(Trees trees) {
        this.trees = trees;
    }

    public static void main(String[] args) throws Exception {
        JavaCompiler compiler = ToolProvider.getSystemJavaCompiler();
        try (StandardJavaFileManager files = compiler.getStandardFileManager(null, null, null)) {
            JavacTask task = (JavacTask) compiler.getTask(null, files, null, null, null,
                files.getJavaFileObjects(new File("src/main/java/ReturnDesk.java")));
            DepthTest test = new DepthTest(Trees.instance(task));
            Iterable<? extends CompilationUnitTree> units = task.parse();
            task.analyze();
            for (CompilationUnitTree unit : units) {
                test.scan(new TreePath(unit), null);
            }
            test.check();
        }
        C.finish();
    }

    private void check() {
        C.holds("methods were found", calls.size() > 100);
        for (Element method : calls.keySet()) {
            if (reachedFrom(method).contains(method)) {
                recursive.add(method);
            }
        }
        for (Element method : recursive) {
            C.holds(told(method) + " carries its depth", ((ExecutableElement) method).getParameters().stream()
                .anyMatch(p -> p.getSimpleName().contentEquals("open")));
        }
        C.holds("recursion stays under 300 calls", recursive.size() * LEVELS + MOST_DEEP < MOST_OPEN_CALLS);
        for (Element method : calls.keySet()) {
            C.holds(told(method) + " goes " + depth(method) + " deep", depth(method) <= MOST_DEEP);
        }
    }

    private static String told(Element method) {
        return method.getEnclosingElement().getSimpleName() + "." + method.getSimpleName();
    }

    private Set<Element> reachedFrom(Element method) {
        Set<Element> reached = new HashSet<>();
        List<Element> next = new ArrayList<>(calls.get(method));
        while (!next.isEmpty()) {
            Element e = next.remove(next.size() - 1);
            if (reached.add(e)) {
                next.addAll(calls.getOrDefault(e, Set.of()));
            }
        }
        return reached;
    }

    /** Methods of the recursion count as none: their depth is bounded by rule 8. */
    private int depth(Element method) {
        Integer known = depths.get(method);
        if (known != null) {
            return known;
        }
        int deepest = 0;
        Set<Element> from = new HashSet<>(calls.getOrDefault(method, Set.of()));
        if (recursive.contains(method)) {
            recursive.forEach(r -> from.addAll(calls.get(r)));
            from.removeAll(recursive);
        }
        for (Element callee : from) {
            deepest = Math.max(deepest, depth(callee));
        }
        depths.put(method, deepest + (recursive.contains(method) ? 0 : 1));
        return depths.get(method);
    }

    private void note(Tree tree) {
        Element callee = trees.getElement(getCurrentPath());
        if (caller != null && callee != null && trees.getTree(callee) instanceof MethodTree) {
            calls.get(caller).add(callee);
        }
    }

    @Override
    public Void visitMethod(MethodTree tree, Void nothing) {
        caller = trees.getElement(getCurrentPath());
        calls.putIfAbsent(caller, new HashSet<>());
        super.visitMethod(tree, nothing);
        caller = null;
        return null;
    }

    @Override
    public Void visitMethodInvocation(MethodInvocationTree tree, Void nothing) {
        note(tree);
        return super.visitMethodInvocation(tree, nothing);
    }

    @Override
    public Void visitNewClass(NewClassTree tree, Void nothing) {
        C.holds("no loop makes an object: " + tree, loops == 0);
        note(tree);
        return super.visitNewClass(tree, nothing);
    }

    @Override
    public Void visitNewArray(NewArrayTree tree, Void nothing) {
        C.holds("no loop makes an array: " + tree, loops == 0);
        return super.visitNewArray(tree, nothing);
    }

    @Override
    public Void visitForLoop(ForLoopTree tree, Void nothing) {
        loops++;
        super.visitForLoop(tree, nothing);
        loops--;
        return null;
    }

    @Override
    public Void visitWhileLoop(WhileLoopTree tree, Void nothing) {
        loops++;
        super.visitWhileLoop(tree, nothing);
        loops--;
        return null;
    }

    @Override
    public Void visitDoWhileLoop(DoWhileLoopTree tree, Void nothing) {
        loops++;
        super.visitDoWhileLoop(tree, nothing);
        loops--;
        return null;
    }

    @Override
    public Void visitEnhancedForLoop(EnhancedForLoopTree tree, Void nothing) {
        loops++;
        super.visitEnhancedForLoop(tree, nothing);
        loops--;
        return null;
    }
}
