import com.sun.source.tree.DoWhileLoopTree;
import com.sun.source.tree.EnhancedForLoopTree;
import com.sun.source.tree.ForLoopTree;
import com.sun.source.tree.MethodInvocationTree;
import com.sun.source.tree.MethodTree;
import com.sun.source.tree.NewArrayTree;
import com.sun.source.tree.NewClassTree;
import com.sun.source.tree.Tree;
import com.sun.source.tree.TypeCastTree;
import com.sun.source.tree.VariableTree;
import com.sun.source.tree.WhileLoopTree;
import com.sun.source.util.JavacTask;
import com.sun.source.util.TreePath;
import com.sun.source.util.TreePathScanner;
import com.sun.source.util.Trees;
import java.io.IOException;
import java.nio.file.Path;
import java.util.ArrayDeque;
import java.util.Deque;
import java.util.List;
import java.util.Map;
import java.util.Set;
import java.util.TreeMap;
import java.util.TreeSet;
import javax.lang.model.element.Element;
import javax.lang.model.type.ArrayType;
import javax.lang.model.type.TypeKind;
import javax.lang.model.type.TypeMirror;
import javax.tools.JavaCompiler;
import javax.tools.StandardJavaFileManager;
import javax.tools.ToolProvider;

/** The rules of LANGUAGE.md that need to know what each name means, by the compiler's own reading of the source. */
public final class CallsTest {
    private static final Path SOURCE = Path.of("src/main/java/BookBarge.java");
    private static final int MOST_CALLS_DEEP = 8;

    /** Rule 4, as far as the class needs it. */
    private static final Set<String> LIBRARY = Set.of("java.lang.Math.min", "java.lang.Math.max", "java.lang.Math.abs",
        "java.lang.System.arraycopy", "java.util.Arrays.fill", "java.util.Arrays.copyOf", "java.lang.String.length",
        "java.lang.String.charAt");

    /** What may make something, beside constructors: four IMAGES and six RULES are all that an object ever makes. */
    private static final Set<String> MAKERS = Set.of("BookBarge.image", "BookBarge.RuleParser.made");

    private final Map<String, Set<String>> calls = new TreeMap<>();
    private final Set<String> recursive = new TreeSet<>();
    private Trees trees = null;
    private int wrong = 0;

    public static void main(String[] args) throws IOException {
        CallsTest test = new CallsTest();
        test.read();
        test.checkDepth();
        System.out.println(test.calls.size() + " methods looked at, " + test.wrong + " rules broken");
        if (test.wrong != 0) System.exit(1);
    }

    private void must(boolean holds, String what) {
        if (!holds) {
            wrong++;
            System.out.println("broken: " + what);
        }
    }

    private void read() throws IOException {
        JavaCompiler compiler = ToolProvider.getSystemJavaCompiler();
        try (StandardJavaFileManager files = compiler.getStandardFileManager(null, null, null)) {
            JavacTask task = (JavacTask) compiler.getTask(null, files, null, List.of("-proc:none"), null,
                files.getJavaFileObjects(SOURCE));
            var units = task.parse();
            task.analyze();
            trees = Trees.instance(task);
            new Reader().scan(units, null);
        }
        must(calls.size() > 34, "the methods were found");
    }

    /** Calls of recursion are none: methods that call one another count as one. */
    private void checkDepth() {
        for (String method : calls.keySet()) {
            if (reached(method).contains(method)) recursive.add(method);
        }
        for (String method : calls.keySet()) {
            int deep = depth(method, new ArrayDeque<>());
            must(deep <= MOST_CALLS_DEEP, method + " goes " + deep + " calls deep");
        }
        for (String method : recursive) {
            must(method.endsWith(".search") || method.endsWith(".readTest") || method.endsWith(".readFact"),
                "recursion whose depth nobody looked at: " + method);
        }
    }

    private Set<String> reached(String from) {
        Set<String> all = new TreeSet<>();
        Deque<String> open = new ArrayDeque<>(calls.get(from));
        while (!open.isEmpty()) {
            String method = open.pop();
            if (all.add(method)) open.addAll(calls.get(method));
        }
        return all;
    }

    private int depth(String method, Deque<String> path) {
        int deepest = 0;
        path.push(method);
        for (String next : calls.get(method)) {
            boolean isOneWithIt = recursive.contains(method) && reached(next).contains(method);
            if (path.contains(next)) continue;
            deepest = Math.max(deepest, depth(next, path) - (isOneWithIt ? 1 : 0));
        }
        path.pop();
        return deepest + 1;
    }

    private final class Reader extends TreePathScanner<Void, Void> {
        private String method = "";
        private boolean isConstructor = false;
        private int loops = 0;

        private Element element() {
            return trees.getElement(getCurrentPath());
        }

        private String nameOf(Element element) {
            return element.getEnclosingElement() + "." + element.getSimpleName();
        }

        @Override
        public Void visitMethod(MethodTree tree, Void none) {
            method = nameOf(element());
            isConstructor = tree.getReturnType() == null;
            must(tree.getParameters().size() <= 7, method + " takes more than seven");
            if (!isConstructor) {
                must(!calls.containsKey(method), "two methods are named " + method);
                calls.put(method, new TreeSet<>());
            }
            super.visitMethod(tree, none);
            method = "";
            isConstructor = false;
            return null;
        }

        @Override
        public Void visitMethodInvocation(MethodInvocationTree tree, Void none) {
            String called = nameOf(element());
            if (called.startsWith("BookBarge.")) {
                must(!method.isEmpty(), "a field's first value by a call: " + tree);
                if (!method.isEmpty() && !isConstructor) calls.get(method).add(called);
            } else if (!called.endsWith(".<init>")) {
                must(LIBRARY.contains(called), "the library's " + called);
            }
            if (called.endsWith(".copyOf")) checkMaking(tree);
            return super.visitMethodInvocation(tree, none);
        }

        @Override
        public Void visitNewClass(NewClassTree tree, Void none) {
            checkMaking(tree);
            must(tree.getClassBody() == null, "no class without a name: " + tree);
            return super.visitNewClass(tree, none);
        }

        @Override
        public Void visitNewArray(NewArrayTree tree, Void none) {
            checkMaking(tree);
            return super.visitNewArray(tree, none);
        }

        private void checkMaking(Tree tree) {
            must(method.isEmpty() || isConstructor || MAKERS.contains(method), method + " makes " + tree);
            must(loops == 0, "made in a loop: " + tree);
        }

        @Override
        public Void visitVariable(VariableTree tree, Void none) {
            TypeMirror type = trees.getTypeMirror(new TreePath(getCurrentPath(), tree.getType()));
            if (type instanceof ArrayType row) type = row.getComponentType();
            boolean isKnown = type.getKind() == TypeKind.INT || type.getKind() == TypeKind.LONG
                || type.getKind() == TypeKind.BOOLEAN || type.getKind() == TypeKind.CHAR
                || type.toString().equals("java.lang.String") || type.toString().startsWith("BookBarge.");
            must(isKnown, "the type of " + tree);
            return super.visitVariable(tree, none);
        }

        @Override
        public Void visitTypeCast(TypeCastTree tree, Void none) {
            must(trees.getTypeMirror(getCurrentPath()).getKind().isPrimitive(), "a cast of an object: " + tree);
            return super.visitTypeCast(tree, none);
        }

        @Override
        public Void visitWhileLoop(WhileLoopTree tree, Void none) {
            must(tree.getCondition().toString().contains("< length"), "no bound in sight: while " + tree.getCondition());
            loops++;
            super.visitWhileLoop(tree, none);
            loops--;
            return null;
        }

        @Override
        public Void visitDoWhileLoop(DoWhileLoopTree tree, Void none) {
            must(false, "no bound in sight: do while " + tree.getCondition());
            return super.visitDoWhileLoop(tree, none);
        }

        @Override
        public Void visitForLoop(ForLoopTree tree, Void none) {
            must(tree.getInitializer().size() == 1 && tree.getCondition() != null && tree.getUpdate().size() == 1,
                "no bound in sight: " + tree);
            loops++;
            super.visitForLoop(tree, none);
            loops--;
            return null;
        }

        @Override
        public Void visitEnhancedForLoop(EnhancedForLoopTree tree, Void none) {
            loops++;
            super.visitEnhancedForLoop(tree, none);
            loops--;
            return null;
        }
    }
}
