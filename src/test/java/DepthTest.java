import com.sun.source.tree.CompilationUnitTree;
import com.sun.source.tree.MethodInvocationTree;
import com.sun.source.tree.MethodTree;
import com.sun.source.tree.NewClassTree;
import com.sun.source.util.JavacTask;
import com.sun.source.util.SourcePositions;
import com.sun.source.util.TreePath;
import com.sun.source.util.TreePathScanner;
import com.sun.source.util.Trees;
import java.io.File;
import java.io.IOException;
import java.util.LinkedHashMap;
import java.util.LinkedHashSet;
import java.util.List;
import java.util.Map;
import java.util.Set;
import javax.lang.model.element.Element;
import javax.tools.JavaCompiler;
import javax.tools.StandardJavaFileManager;
import javax.tools.ToolProvider;

/** Rules 8 and 11 of LANGUAGE.md: how deep calls go, how long methods are, how much they take. */
final class DepthTest extends TreePathScanner<Void, Element> {
    private static final int MOST_DEEP = 8;
    private static final int MOST_LINES = 60;
    private static final int MOST_TAKEN = 7;

    private final Trees trees;
    private final SourcePositions positions;
    private final CompilationUnitTree unit;
    private final Map<Element, Set<Element>> calls = new LinkedHashMap<>();
    private final Map<Element, Integer> depths = new LinkedHashMap<>();

    private DepthTest(Trees trees, CompilationUnitTree unit) {
        this.trees = trees;
        this.positions = trees.getSourcePositions();
        this.unit = unit;
    }

    public static void main(String[] args) throws IOException {
        JavaCompiler compiler = ToolProvider.getSystemJavaCompiler();
        try (StandardJavaFileManager files = compiler.getStandardFileManager(null, null, null)) {
            JavacTask task = (JavacTask) compiler.getTask(null, files, null, List.of("-proc:none"), null,
                files.getJavaFileObjects(new File("src/main/java/CellSlide.java")));
            CompilationUnitTree unit = task.parse().iterator().next();
            task.analyze();
            DepthTest test = new DepthTest(Trees.instance(task), unit);
            test.scan(unit, null);
            test.judge();
        }
        Check.end();
    }

    @Override
    public Void visitMethod(MethodTree method, Element outer) {
        Element here = trees.getElement(getCurrentPath());
        calls.put(here, new LinkedHashSet<>());
        long from = positions.getStartPosition(unit, method);
        long to = positions.getEndPosition(unit, method);
        if (to > from) {
            long lines = unit.getLineMap().getLineNumber(to) - unit.getLineMap().getLineNumber(from) + 1;
            Check.due(here + " has " + lines + " lines", lines <= MOST_LINES, true);
        }
        Check.due(here + " takes few", method.getParameters().size() <= MOST_TAKEN, true);
        return super.visitMethod(method, here);
    }

    @Override
    public Void visitMethodInvocation(MethodInvocationTree call, Element here) {
        note(here);
        return super.visitMethodInvocation(call, here);
    }

    @Override
    public Void visitNewClass(NewClassTree made, Element here) {
        note(here);
        return super.visitNewClass(made, here);
    }

    private void note(Element here) {
        TreePath path = getCurrentPath();
        // What stands at a field is called by constructors: it is told apart, as if one method did it.
        Set<Element> from = calls.computeIfAbsent(here, none -> new LinkedHashSet<>());
        from.add(trees.getElement(path));
    }

    private void judge() {
        int most = 0;
        for (Element method : calls.keySet()) {
            int depth = depthOf(method, 0);
            most = Math.max(most, depth);
            Check.due(method + " goes " + depth + " deep", depth <= MOST_DEEP, true);
        }
        Check.due("calls were found", calls.size() > 100 && most > 3, true);
    }

    /** Calls that stand open at once from this one on, itself and the library's among them. */
    private int depthOf(Element method, int ahead) {
        Integer known = depths.get(method);
        if (known != null) {
            return known;
        }
        Check.due(method + " is no recursion", ahead < 40, true);
        int deepest = 0;
        if (ahead < 40) {
            for (Element called : calls.getOrDefault(method, Set.of())) {
                deepest = Math.max(deepest, depthOf(called, ahead + 1));
            }
        }
        depths.put(method, deepest + 1);
        return deepest + 1;
    }
}
