import com.sun.source.tree.ClassTree;
import com.sun.source.tree.CompilationUnitTree;
import com.sun.source.tree.MethodInvocationTree;
import com.sun.source.tree.MethodTree;
import com.sun.source.tree.NewClassTree;
import com.sun.source.util.JavacTask;
import com.sun.source.util.TreePath;
import com.sun.source.util.TreePathScanner;
import com.sun.source.util.Trees;
import java.nio.file.Path;
import java.util.ArrayDeque;
import java.util.Deque;
import java.util.LinkedHashMap;
import java.util.LinkedHashSet;
import java.util.List;
import java.util.Map;
import java.util.Set;
import javax.lang.model.element.Element;
import javax.tools.JavaCompiler;
import javax.tools.StandardJavaFileManager;
import javax.tools.ToolProvider;

/** LANGUAGE.md's rules 8 and 11: no method calls itself, by whatever way, and calls go at most eight deep. */
public final class CallDepthTest {
    private static final Checks C = new Checks("CallDepthTest");
    private static final int DEEPEST = 8;

    public static void main(String[] args) throws Exception {
        Map<Element, Set<Element>> calls = calls(Path.of("src/main/java/GraphTexts.java"));
        C.same("methods are seen", calls.size() > 60 ? 1 : 0, 1);
        for (Element method : calls.keySet()) {
            int depth = depth(calls, method, new ArrayDeque<>());
            C.same("calls from " + method + ", " + depth + " deep", depth <= DEEPEST ? 1 : 0, 1);
        }
        C.end();
    }

    private static int depth(Map<Element, Set<Element>> calls, Element method, Deque<Element> open) {
        if (open.contains(method)) {
            C.same("a call of itself by " + method, 1, 0);
            return 0;
        }
        open.push(method);
        int deepest = 0;
        for (Element called : calls.getOrDefault(method, Set.of())) {
            deepest = Math.max(deepest, calls.containsKey(called) ? depth(calls, called, open) : 0);
        }
        open.pop();
        return 1 + deepest;
    }

    private static Map<Element, Set<Element>> calls(Path source) throws Exception {
        JavaCompiler compiler = ToolProvider.getSystemJavaCompiler();
        Map<Element, Set<Element>> calls = new LinkedHashMap<>();
        try (StandardJavaFileManager files = compiler.getStandardFileManager(null, null, null)) {
            JavacTask task = (JavacTask) compiler.getTask(null, files, null, List.of("-proc:none"), null,
                files.getJavaFileObjects(source));
            Iterable<? extends CompilationUnitTree> units = task.parse();
            task.analyze();
            for (CompilationUnitTree unit : units) {
                new Calls(Trees.instance(task), calls).scan(new TreePath(unit), null);
            }
        }
        return calls;
    }

    private static final class Calls extends TreePathScanner<Void, Void> {
        private final Trees trees;
        private final Map<Element, Set<Element>> calls;
        private Set<Element> now = new LinkedHashSet<>();

        Calls(Trees trees, Map<Element, Set<Element>> calls) {
            this.trees = trees;
            this.calls = calls;
        }

        @Override
        public Void visitClass(ClassTree tree, Void nothing) {
            Set<Element> outer = now;
            now = new LinkedHashSet<>();
            super.visitClass(tree, nothing);
            now = outer;
            return null;
        }

        @Override
        public Void visitMethod(MethodTree tree, Void nothing) {
            now = calls.computeIfAbsent(trees.getElement(getCurrentPath()), k -> new LinkedHashSet<>());
            return super.visitMethod(tree, nothing);
        }

        @Override
        public Void visitMethodInvocation(MethodInvocationTree tree, Void nothing) {
            now.add(trees.getElement(getCurrentPath()));
            return super.visitMethodInvocation(tree, nothing);
        }

        @Override
        public Void visitNewClass(NewClassTree tree, Void nothing) {
            now.add(trees.getElement(getCurrentPath()));
            return super.visitNewClass(tree, nothing);
        }
    }
}
