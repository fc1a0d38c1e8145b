import com.sun.source.tree.CompilationUnitTree;
import com.sun.source.tree.MethodInvocationTree;
import com.sun.source.tree.MethodTree;
import com.sun.source.tree.NewArrayTree;
import com.sun.source.tree.NewClassTree;
import com.sun.source.util.JavacTask;
import com.sun.source.util.SourcePositions;
import com.sun.source.util.TreePathScanner;
import com.sun.source.util.Trees;
import java.nio.file.Path;
import java.util.HashMap;
import java.util.LinkedHashSet;
import java.util.List;
import java.util.Map;
import java.util.Set;
import javax.lang.model.element.Element;
import javax.lang.model.element.ElementKind;
import javax.lang.model.element.Modifier;
import javax.tools.JavaCompiler;
import javax.tools.StandardJavaFileManager;
import javax.tools.ToolProvider;

/** Rules 8, 11 and 12 of LANGUAGE.md, looked up in the program as the compiler reads it. */
public final class LanguageTest {
    private static final Path SOURCE = Path.of("src/main/java/SpringPawn.java");
    private static final int LINES_MOST = 60;
    private static final int DEEP_MOST = 8;
    private static final Due DUE = new Due();

    private final Map<Element, Set<Element>> calls = new HashMap<>();

    public static void main(String[] args) throws Exception {
        new LanguageTest().run();
        DUE.end();
    }

    private void run() throws Exception {
        JavaCompiler compiler = ToolProvider.getSystemJavaCompiler();
        try (StandardJavaFileManager files = compiler.getStandardFileManager(null, null, null)) {
            JavacTask task = (JavacTask) compiler.getTask(null, files, null, List.of("-proc:none"), null,
                files.getJavaFileObjects(SOURCE));
            Iterable<? extends CompilationUnitTree> units = task.parse();
            task.analyze();
            for (CompilationUnitTree unit : units) {
                new Scanner(Trees.instance(task), unit).scan(unit, null);
            }
        }
        DUE.is("methods were found", calls.size() > 25 ? 1 : 0, 1);
        for (Element method : calls.keySet()) {
            if (method.getModifiers().contains(Modifier.PUBLIC)) {
                int deep = depth(method, new LinkedHashSet<>());
                DUE.is("calls below " + method + " go " + deep + " deep", deep > DEEP_MOST ? 1 : 0, 0);
            }
        }
    }

    /** How many calls stand open at once, this one among them. */
    private int depth(Element method, Set<Element> open) {
        boolean again = !open.add(method);
        DUE.is("recursion: " + open + " and " + method, again ? 1 : 0, 0);
        int most = 0;
        for (Element called : again ? Set.<Element>of() : calls.getOrDefault(method, Set.of())) {
            most = Math.max(most, depth(called, open));
        }
        if (!again) {
            open.remove(method);
        }
        return most + 1;
    }

    private final class Scanner extends TreePathScanner<Void, Void> {
        private final Trees trees;
        private final CompilationUnitTree unit;
        private Element method = null;

        Scanner(Trees trees, CompilationUnitTree unit) {
            this.trees = trees;
            this.unit = unit;
        }

        @Override
        public Void visitMethod(MethodTree tree, Void nothing) {
            method = trees.getElement(getCurrentPath());
            calls.put(method, new LinkedHashSet<>());
            SourcePositions places = trees.getSourcePositions();
            long first = unit.getLineMap().getLineNumber(Math.max(0, places.getStartPosition(unit, tree)));
            long last = unit.getLineMap().getLineNumber(Math.max(0, places.getEndPosition(unit, tree)));
            DUE.is(method + " is too long: lines", last - first + 1 > LINES_MOST ? last - first + 1 : 0, 0);
            super.visitMethod(tree, nothing);
            method = null;
            return null;
        }

        @Override
        public Void visitMethodInvocation(MethodInvocationTree tree, Void nothing) {
            if (method != null) {
                calls.get(method).add(trees.getElement(getCurrentPath()));
            }
            return super.visitMethodInvocation(tree, nothing);
        }

        @Override
        public Void visitNewClass(NewClassTree tree, Void nothing) {
            madeInAConstructor();
            return super.visitNewClass(tree, nothing);
        }

        @Override
        public Void visitNewArray(NewArrayTree tree, Void nothing) {
            madeInAConstructor();
            return super.visitNewArray(tree, nothing);
        }

        private void madeInAConstructor() {
            boolean made = method == null || method.getKind() == ElementKind.CONSTRUCTOR;
            DUE.is(method + " makes an object at every call", made ? 1 : 0, 1);
        }
    }
}
