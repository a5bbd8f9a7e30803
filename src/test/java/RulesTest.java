import com.sun.source.tree.ClassTree;
import com.sun.source.tree.CompilationUnitTree;
import com.sun.source.tree.LineMap;
import com.sun.source.tree.MethodInvocationTree;
import com.sun.source.tree.MethodTree;
import com.sun.source.tree.NewClassTree;
import com.sun.source.tree.Tree;
import com.sun.source.util.JavacTask;
import com.sun.source.util.SourcePositions;
import com.sun.source.util.TreePathScanner;
import com.sun.source.util.Trees;
import java.io.IOException;
import java.nio.file.Path;
import java.util.Arrays;
import java.util.HashMap;
import java.util.HashSet;
import java.util.Map;
import java.util.Set;
import java.util.TreeSet;
import javax.lang.model.element.Element;
import javax.lang.model.element.ElementKind;
import javax.lang.model.element.TypeElement;
import javax.tools.JavaCompiler;
import javax.tools.StandardJavaFileManager;
import javax.tools.ToolProvider;

/** Rules of LANGUAGE.md that the compiler's own tree of the class shows: the library, the depth of calls, lengths. */
public final class RulesTest {
    private static final Check CHECK = new Check("RulesTest");
    private static final int DEEPEST = 8;
    private static final int LONGEST = 60;
    private static final Set<String> LIBRARY = new TreeSet<>(Arrays.asList("java.lang.Math.abs(int)",
        "java.lang.Math.floorMod(int,int)", "java.lang.String.length()", "java.lang.String.charAt(int)",
        "java.lang.Object.Object()"));
    private static final Set<Tree.Kind> BARRED = new HashSet<>(Arrays.asList(Tree.Kind.LAMBDA_EXPRESSION,
        Tree.Kind.MEMBER_REFERENCE, Tree.Kind.TRY, Tree.Kind.THROW, Tree.Kind.SYNCHRONIZED, Tree.Kind.ASSERT,
        Tree.Kind.INSTANCE_OF, Tree.Kind.SWITCH_EXPRESSION, Tree.Kind.IMPORT, Tree.Kind.ANNOTATION));

    /** Which methods of the class each of them calls, by the compiler's own elements. */
    private final Map<Element, Set<Element>> calls = new HashMap<>();
    private final Map<Element, Integer> depths = new HashMap<>();
    private final Set<Element> open = new HashSet<>();

    public static void main(String[] args) throws IOException {
        new RulesTest().read(Path.of("src/main/java/SeatSwap.java"));
        CHECK.end();
    }

    private void read(Path file) throws IOException {
        JavaCompiler compiler = ToolProvider.getSystemJavaCompiler();
        try (StandardJavaFileManager files = compiler.getStandardFileManager(null, null, null)) {
            JavacTask task = (JavacTask) compiler.getTask(null, files, null, null, null,
                files.getJavaFileObjects(file));
            for (CompilationUnitTree unit : task.parse()) {
                task.analyze();
                new Scanner(Trees.instance(task), unit).scan(unit, null);
            }
        }
        int deepest = 0;
        for (Element method : calls.keySet()) {
            int depth = depth(method);
            CHECK.that(method + " opens " + depth + " calls", depth <= DEEPEST);
            deepest = Math.max(deepest, depth);
        }
        CHECK.that("the calls were found", deepest > 3);
    }

    /** How many calls stand open at once below this one, itself counted; recursion is told as a fault. */
    private int depth(Element method) {
        if (depths.containsKey(method)) {
            return depths.get(method);
        }
        boolean fresh = open.add(method);
        CHECK.that(method + " calls itself", fresh);
        int below = 0;
        if (fresh) {
            for (Element called : calls.getOrDefault(method, Set.of())) {
                below = Math.max(below, depth(called));
            }
            open.remove(method);
        }
        depths.put(method, below + 1);
        return below + 1;
    }

    private final class Scanner extends TreePathScanner<Void, Void> {
        private final Trees trees;
        private final CompilationUnitTree unit;
        private final LineMap lines;
        private final SourcePositions places;
        private Element method;

        Scanner(Trees trees, CompilationUnitTree unit) {
            this.trees = trees;
            this.unit = unit;
            lines = unit.getLineMap();
            places = trees.getSourcePositions();
        }

        private long line(long place) {
            return lines.getLineNumber(place);
        }

        @Override
        public Void scan(Tree tree, Void nothing) {
            if (tree != null) {
                CHECK.that("the class has a " + tree.getKind(), !BARRED.contains(tree.getKind()));
            }
            return super.scan(tree, nothing);
        }

        @Override
        public Void visitMethod(MethodTree tree, Void nothing) {
            Element outer = method;
            method = trees.getElement(getCurrentPath());
            calls.putIfAbsent(method, new HashSet<>());
            // A constructor that the compiler adds has no lines of its own.
            if (places.getEndPosition(unit, tree) >= 0) {
                long length = line(places.getEndPosition(unit, tree)) - line(places.getStartPosition(unit, tree)) + 1;
                CHECK.that(method + " has " + length + " lines", length <= LONGEST);
            }
            super.visitMethod(tree, nothing);
            method = outer;
            return null;
        }

        @Override
        public Void visitClass(ClassTree tree, Void nothing) {
            Element outer = method;
            method = null;
            super.visitClass(tree, nothing);
            method = outer;
            return null;
        }

        @Override
        public Void visitMethodInvocation(MethodInvocationTree tree, Void nothing) {
            note(trees.getElement(getCurrentPath()));
            return super.visitMethodInvocation(tree, nothing);
        }

        @Override
        public Void visitNewClass(NewClassTree tree, Void nothing) {
            note(trees.getElement(getCurrentPath()));
            CHECK.that("an object is made outside a constructor, in " + method,
                method != null && method.getKind() == ElementKind.CONSTRUCTOR);
            return super.visitNewClass(tree, nothing);
        }

        private void note(Element called) {
            TypeElement owner = (TypeElement) called.getEnclosingElement();
            String name = owner.getQualifiedName().toString();
            if (name.equals("SeatSwap") || name.startsWith("SeatSwap.")) {
                CHECK.that("a call outside a method", method != null);
                calls.computeIfAbsent(method, key -> new HashSet<>()).add(called);
            } else {
                CHECK.that("the library's " + name + "." + called, LIBRARY.contains(name + "." + called)
                    || called.getKind() == ElementKind.CONSTRUCTOR && name.equals("java.lang.Object"));
            }
        }
    }
}
