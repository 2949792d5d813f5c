import com.sun.source.tree.ClassTree;
import com.sun.source.tree.CompilationUnitTree;
import com.sun.source.tree.MethodInvocationTree;
import com.sun.source.tree.MethodTree;
import com.sun.source.tree.NewArrayTree;
import com.sun.source.tree.NewClassTree;
import com.sun.source.tree.ThrowTree;
import com.sun.source.util.JavacTask;
import com.sun.source.util.TreePath;
import com.sun.source.util.TreePathScanner;
import com.sun.source.util.Trees;
import java.io.IOException;
import java.nio.file.Path;
import java.util.List;
import java.util.Map;
import java.util.Set;
import java.util.TreeMap;
import java.util.TreeSet;
import javax.lang.model.element.Element;
import javax.lang.model.element.ElementKind;
import javax.tools.JavaCompiler;
import javax.tools.StandardJavaFileManager;
import javax.tools.ToolProvider;

/** Rules 4, 6, 8, 11 and 12 of LANGUAGE.md, as far as calls tell: whom the program's methods call, and what they make. */
public final class CallsTest {
    private static final Due DUE = new Due();
    private static final Path PROGRAM = Path.of("src/main/java/PictureFile.java");
    private static final int DEEPEST = 8;
    private static final Set<String> LIBRARY = Set.of(
        "java.lang.Math.abs", "java.lang.Math.max", "java.lang.Math.min", "java.util.Arrays.fill", "java.lang.Object.<init>");
    private static final Set<String> EXCEPTIONS = Set.of("java.lang.IllegalStateException",
        "java.lang.IllegalArgumentException", "java.lang.IndexOutOfBoundsException", "java.lang.UnsupportedOperationException");

    private final Map<String, Set<String>> calls = new TreeMap<>();
    private final Map<String, Integer> depths = new TreeMap<>();

    public static void main(String[] args) throws IOException {
        CallsTest test = new CallsTest();
        test.gather();
        DUE.that("methods are found: " + test.calls.size(), test.calls.size() > 80);
        for (String method : test.calls.keySet()) {
            int depth = test.depth(method, 1);
            DUE.that(method + ": calls go " + depth + " deep", depth <= DEEPEST);
        }
        DUE.finish();
    }

    private void gather() throws IOException {
        JavaCompiler compiler = ToolProvider.getSystemJavaCompiler();
        try (StandardJavaFileManager files = compiler.getStandardFileManager(null, null, null)) {
            JavacTask task = (JavacTask) compiler.getTask(null, files, null, List.of("-proc:none"), null,
                files.getJavaFileObjects(PROGRAM));
            Iterable<? extends CompilationUnitTree> units = task.parse();
            task.analyze();
            for (CompilationUnitTree unit : units) {
                new Scanner(Trees.instance(task)).scan(unit, null);
            }
        }
    }

    /** How many calls stand open at once at most; more than DEEPEST for a method that calls itself. */
    private int depth(String method, int level) {
        Integer known = depths.get(method);
        if (known != null) {
            return known;
        }
        int most = 1;
        for (String called : calls.getOrDefault(method, Set.of())) {
            most = Math.max(most, 1 + (level > DEEPEST ? DEEPEST : depth(called, level + 1)));
        }
        if (level == 1) {
            depths.put(method, most);
        }
        return most;
    }

    private final class Scanner extends TreePathScanner<Void, Void> {
        private final Trees trees;
        private String current = "";
        private boolean making = true;

        Scanner(Trees trees) {
            this.trees = trees;
        }

        @Override
        public Void visitMethod(MethodTree tree, Void none) {
            Element method = trees.getElement(getCurrentPath());
            current = nameOf(method);
            making = method.getKind() == ElementKind.CONSTRUCTOR;
            calls.putIfAbsent(current, new TreeSet<>());
            super.visitMethod(tree, none);
            current = "";
            making = true;
            return null;
        }

        @Override
        public Void visitClass(ClassTree tree, Void none) {
            current = "";
            making = true;
            return super.visitClass(tree, none);
        }

        @Override
        public Void visitMethodInvocation(MethodInvocationTree tree, Void none) {
            called(trees.getElement(new TreePath(getCurrentPath(), tree.getMethodSelect())));
            return super.visitMethodInvocation(tree, none);
        }

        @Override
        public Void visitNewClass(NewClassTree tree, Void none) {
            Element made = trees.getElement(getCurrentPath());
            String name = made.getEnclosingElement().toString();
            if (getCurrentPath().getParentPath().getLeaf() instanceof ThrowTree) {
                DUE.that(current + " throws " + name, EXCEPTIONS.contains(name) && !making);
            } else {
                DUE.that(current + " makes " + name, making);
                called(made);
            }
            return super.visitNewClass(tree, none);
        }

        @Override
        public Void visitNewArray(NewArrayTree tree, Void none) {
            DUE.that(current + " makes an array", making);
            return super.visitNewArray(tree, none);
        }

        private void called(Element method) {
            String name = nameOf(method);
            if (name.startsWith("PictureFile")) {
                // A field's initialiser has no method of its own.
                calls.computeIfAbsent(current, key -> new TreeSet<>()).add(name);
            } else {
                DUE.that(current + " calls " + name, LIBRARY.contains(name));
            }
        }

        private String nameOf(Element method) {
            return method.getEnclosingElement() + "." + method.getSimpleName();
        }
    }
}
