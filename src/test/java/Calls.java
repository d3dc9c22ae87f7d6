import com.sun.source.tree.ClassTree;
import com.sun.source.tree.CompilationUnitTree;
import com.sun.source.tree.MethodInvocationTree;
import com.sun.source.tree.MethodTree;
import com.sun.source.tree.NewClassTree;
import com.sun.source.util.JavacTask;
import com.sun.source.util.TreePath;
import com.sun.source.util.TreePathScanner;
import com.sun.source.util.Trees;
import java.io.IOException;
import java.nio.file.Path;
import java.util.HashSet;
import java.util.List;
import java.util.Map;
import java.util.Set;
import java.util.TreeMap;
import java.util.TreeSet;
import javax.lang.model.element.Element;
import javax.tools.JavaCompiler;
import javax.tools.StandardJavaFileManager;
import javax.tools.ToolProvider;

/** Which method of a source file calls which of the same file, as javac understands it. */
final class Calls extends TreePathScanner<Void, Void> {
    private final Map<String, Set<String>> calls = new TreeMap<>();
    private final Trees trees;
    private String open = "";

    private Calls(Trees newTrees) {
        trees = newTrees;
    }

    static Calls in(Path file) throws IOException {
        JavaCompiler compiler = ToolProvider.getSystemJavaCompiler();
        try (StandardJavaFileManager files = compiler.getStandardFileManager(null, null, null)) {
            JavacTask task = (JavacTask) compiler.getTask(null, files, null, List.of("-proc:none"), null,
                files.getJavaFileObjects(file));
            Iterable<? extends CompilationUnitTree> units = task.parse();
            task.analyze();
            Calls calls = new Calls(Trees.instance(task));
            calls.scan(units, null);
            return calls;
        }
    }

    @Override
    public Void visitClass(ClassTree node, Void none) {
        String outer = open;
        // What a field begins with is called by the constructor.
        open = nameOf(trees.getElement(getCurrentPath())) + ".<init>";
        calls.computeIfAbsent(open, name -> new TreeSet<>());
        super.visitClass(node, none);
        open = outer;
        return null;
    }

    @Override
    public Void visitMethod(MethodTree node, Void none) {
        String outer = open;
        open = methodName(trees.getElement(getCurrentPath()));
        calls.computeIfAbsent(open, name -> new TreeSet<>());
        super.visitMethod(node, none);
        open = outer;
        return null;
    }

    @Override
    public Void visitMethodInvocation(MethodInvocationTree node, Void none) {
        Element called = trees.getElement(new TreePath(getCurrentPath(), node.getMethodSelect()));
        calls.get(open).add(methodName(called));
        return super.visitMethodInvocation(node, none);
    }

    @Override
    public Void visitNewClass(NewClassTree node, Void none) {
        calls.get(open).add(methodName(trees.getElement(getCurrentPath())));
        return super.visitNewClass(node, none);
    }

    private static String methodName(Element method) {
        return nameOf(method.getEnclosingElement()) + "." + method.getSimpleName();
    }

    private static String nameOf(Element type) {
        return type.getSimpleName().toString();
    }

    Set<String> methods() {
        return calls.keySet();
    }

    /** How many methods stand open at most from this one on, none of them twice: a recursion counts once. */
    int deepest(String method) {
        return deepest(method, new HashSet<>(Set.of(method)));
    }

    private int deepest(String method, Set<String> chain) {
        int most = 0;
        for (String next : calls.get(method)) {
            if (calls.containsKey(next) && chain.add(next)) {
                most = Math.max(most, deepest(next, chain));
                chain.remove(next);
            }
        }
        return most + 1;
    }
}
