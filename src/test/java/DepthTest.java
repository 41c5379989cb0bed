import com.sun.source.tree.CompilationUnitTree;
import com.sun.source.tree.MethodInvocationTree;
import com.sun.source.tree.MethodTree;
import com.sun.source.tree.NewClassTree;
import com.sun.source.util.JavacTask;
import com.sun.source.util.TreePathScanner;
import com.sun.source.util.Trees;
import java.io.IOException;
import java.nio.file.Path;
import java.util.ArrayList;
import java.util.List;
import java.util.Map;
import java.util.Set;
import java.util.TreeMap;
import java.util.TreeSet;
import javax.lang.model.element.Element;
import javax.lang.model.element.TypeElement;
import javax.tools.JavaCompiler;
import javax.tools.StandardJavaFileManager;
import javax.tools.ToolProvider;

/** What LANGUAGE.md says of calls: how deep they go, which are recursions, and which of the library's there are. */
final class DepthTest {
    private static final int DEEPEST = 8;
    // The depth of each is bounded: by DEEPEST of ( not and - that are open, and by five moves.
    private static final Set<String> RECURSIONS = Set.of("Reader.ask", "Reader.sum", "Reader.one", "Nights.bestPlace");
    private static final Set<String> LIBRARY = Set.of("Integer.bitCount", "Math.abs", "Math.max", "Math.min",
        "String.charAt", "String.indexOf", "String.length", "System.arraycopy", "Object.<init>");

    private final Calls calls = new Calls();
    private final Map<String, Set<String>> called = new TreeMap<>();
    private final Set<String> library = new TreeSet<>();

    public static void main(String[] args) throws IOException {
        DepthTest test = new DepthTest();
        test.read(Path.of(args.length > 0 ? args[0] : ".", "src/main/java/SelfSorting.java"));
        test.looks();
        test.calls.finish("DepthTest");
    }

    private void read(Path source) throws IOException {
        JavaCompiler javac = ToolProvider.getSystemJavaCompiler();
        try (StandardJavaFileManager files = javac.getStandardFileManager(null, null, null)) {
            JavacTask task = (JavacTask) javac.getTask(null, files, null, List.of("-proc:none"), null,
                files.getJavaFileObjects(source));
            Iterable<? extends CompilationUnitTree> units = task.parse();
            task.analyze();
            for (CompilationUnitTree unit : units) {
                new Finder(Trees.instance(task)).scan(unit, "");
            }
        }
    }

    private static String name(Element method) {
        return method.getEnclosingElement().getSimpleName() + "." + method.getSimpleName();
    }

    private void looks() {
        int deepest = 0;
        for (String method : called.keySet()) {
            List<String> way = longest(method, new ArrayList<>());
            deepest = Math.max(deepest, way.size());
            calls.due("calls go deeper than eight: " + way, way.size() > DEEPEST, false);
            boolean recursion = comesBack(method, method, new TreeSet<>());
            calls.due(method + " is a recursion", recursion, RECURSIONS.contains(method));
        }
        for (String method : library) {
            calls.due("the library's " + method + " is one of LANGUAGE.md", LIBRARY.contains(method), true);
        }
        calls.due("methods were found", called.size() > 100 && deepest > 5 && library.size() > 5, true);
    }

    // Each method of a recursion counts once.
    private List<String> longest(String method, List<String> above) {
        List<String> way = new ArrayList<>(above);
        way.add(method);
        List<String> longest = way;
        for (String next : called.getOrDefault(method, Set.of())) {
            if (!way.contains(next)) {
                List<String> other = longest(next, way);
                longest = other.size() > longest.size() ? other : longest;
            }
        }
        return longest;
    }

    private boolean comesBack(String from, String to, Set<String> seen) {
        for (String next : called.getOrDefault(from, Set.of())) {
            if (next.equals(to) || seen.add(next) && comesBack(next, to, seen)) {
                return true;
            }
        }
        return false;
    }

    /** Goes through the source, with the method that it is in. */
    private final class Finder extends TreePathScanner<Void, String> {
        private final Trees trees;

        Finder(Trees trees) {
            this.trees = trees;
        }

        private void found(String in) {
            Element method = trees.getElement(getCurrentPath());
            boolean own = !((TypeElement) method.getEnclosingElement()).getQualifiedName().toString().startsWith("java.");
            if (!own) {
                library.add(name(method));
            } else if (!in.isEmpty()) {
                called.get(in).add(name(method));
            }
        }

        @Override
        public Void visitMethod(MethodTree tree, String in) {
            String name = name(trees.getElement(getCurrentPath()));
            called.computeIfAbsent(name, n -> new TreeSet<>());
            return super.visitMethod(tree, name);
        }

        @Override
        public Void visitMethodInvocation(MethodInvocationTree tree, String in) {
            found(in);
            return super.visitMethodInvocation(tree, in);
        }

        @Override
        public Void visitNewClass(NewClassTree tree, String in) {
            found(in);
            return super.visitNewClass(tree, in);
        }
    }
}
