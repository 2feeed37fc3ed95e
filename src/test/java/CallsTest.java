import com.sun.source.tree.CompilationUnitTree;
import com.sun.source.tree.MethodInvocationTree;
import com.sun.source.tree.MethodTree;
import com.sun.source.tree.NewClassTree;
import com.sun.source.util.JavacTask;
import com.sun.source.util.TreePathScanner;
import com.sun.source.util.Trees;
import java.io.IOException;
import java.nio.file.Path;
import java.util.ArrayList;
import java.util.LinkedHashMap;
import java.util.LinkedHashSet;
import java.util.List;
import java.util.Map;
import java.util.Set;
import javax.lang.model.element.Element;
import javax.tools.JavaCompiler;
import javax.tools.StandardJavaFileManager;
import javax.tools.ToolProvider;

/**
 * Rules 4, 8 and 11 of LANGUAGE.md: as the class is written, calls go at most eight deep, say() alone calls itself, and of
 * the library only what is allowed is called.
 */
public final class CallsTest {
    private static final int DEEPEST = 8;
    private static final List<String> LIBRARY = List.of("java.lang.Math.max", "java.lang.Math.min", "java.lang.String.indexOf",
        "java.lang.System.arraycopy", "java.lang.Object.<init>");

    private final Map<Element, Set<Element>> calls = new LinkedHashMap<>();
    private List<Element> longest = new ArrayList<>();

    private CallsTest() {
    }

    public static void main(String[] args) throws IOException {
        CallsTest test = new CallsTest();
        test.readCalls(Path.of("src/main/java/GhostTable.java"));
        Due.holds("methods were found", test.calls.size() > 100);
        for (Element method : test.calls.keySet()) {
            test.follow(method, new ArrayList<>());
        }
        Due.holds("at most eight deep: " + test.longest, test.longest.size() <= DEEPEST);
        Due.holds("some calls go deep: " + test.longest, test.longest.size() > 3);
        test.holdLibrary();
        Due.end();
    }

    private void readCalls(Path source) throws IOException {
        JavaCompiler compiler = ToolProvider.getSystemJavaCompiler();
        try (StandardJavaFileManager files = compiler.getStandardFileManager(null, null, null)) {
            JavacTask task = (JavacTask) compiler.getTask(null, files, null, List.of("-proc:none"), null,
                files.getJavaFileObjects(source));
            Iterable<? extends CompilationUnitTree> units = task.parse();
            task.analyze();
            for (CompilationUnitTree unit : units) {
                new Scanner(Trees.instance(task)).scan(unit, null);
            }
        }
    }

    private void follow(Element method, List<Element> open) {
        if (open.contains(method)) {
            boolean calledByItself = open.get(open.size() - 1) == method;
            Due.holds(method + " is called again by " + open, calledByItself && method.getSimpleName().contentEquals("say"));
            return;
        }
        open.add(method);
        if (open.size() > longest.size()) {
            longest = new ArrayList<>(open);
        }
        for (Element called : calls.getOrDefault(method, Set.of())) {
            follow(called, open);
        }
        open.remove(open.size() - 1);
    }

    private void holdLibrary() {
        for (Map.Entry<Element, Set<Element>> entry : calls.entrySet()) {
            for (Element called : entry.getValue()) {
                String name = called.getEnclosingElement() + "." + called.getSimpleName();
                boolean own = name.startsWith("GhostTable.");
                Due.holds(entry.getKey() + " may call " + name, own || LIBRARY.contains(name));
            }
        }
    }

    /** Keeps what each method of the class calls, of the library too. */
    private final class Scanner extends TreePathScanner<Void, Void> {
        private final Trees trees;
        private Element caller;

        Scanner(Trees trees) {
            this.trees = trees;
        }

        @Override
        public Void visitMethod(MethodTree tree, Void unused) {
            caller = trees.getElement(getCurrentPath());
            calls.put(caller, new LinkedHashSet<>());
            return super.visitMethod(tree, unused);
        }

        @Override
        public Void visitMethodInvocation(MethodInvocationTree tree, Void unused) {
            keep();
            return super.visitMethodInvocation(tree, unused);
        }

        @Override
        public Void visitNewClass(NewClassTree tree, Void unused) {
            keep();
            return super.visitNewClass(tree, unused);
        }

        private void keep() {
            Element called = trees.getElement(getCurrentPath());
            if (caller != null && called != null) {
                calls.get(caller).add(called);
            }
        }
    }
}
