import com.sun.source.tree.ClassTree;
import com.sun.source.tree.CompilationUnitTree;
import com.sun.source.tree.DoWhileLoopTree;
import com.sun.source.tree.ForLoopTree;
import com.sun.source.tree.MethodInvocationTree;
import com.sun.source.tree.MethodTree;
import com.sun.source.tree.NewArrayTree;
import com.sun.source.tree.NewClassTree;
import com.sun.source.tree.WhileLoopTree;
import com.sun.source.util.JavacTask;
import com.sun.source.util.TreePathScanner;
import com.sun.source.util.Trees;
import java.nio.file.Path;
import java.util.ArrayDeque;
import java.util.List;
import java.util.Map;
import java.util.Set;
import java.util.TreeMap;
import java.util.TreeSet;
import javax.lang.model.element.Element;
import javax.lang.model.element.ExecutableElement;
import javax.tools.JavaCompiler;
import javax.tools.StandardJavaFileManager;
import javax.tools.ToolProvider;

/**
 * Who calls whom in the class, as the compiler reads it: no recursion and at most eight calls deep (rules 8 and 11), no
 * library but what the class needs of rule 4, and objects made in constructors and initialisers alone (rule 12).
 */
public final class CallsTest {
    private static final Set<String> LIBRARY = Set.of("Math.min", "Math.max", "Math.floorMod", "System.arraycopy",
            "String.length", "String.charAt", "Object.<init>");
    private static final int DEEPEST = 8;

    private static final Due due = new Due();

    private final Map<String, Set<String>> calls = new TreeMap<>();
    private final Set<String> made = new TreeSet<>();
    private final Set<String> faces = new TreeSet<>();
    private final Map<String, Integer> depths = new TreeMap<>();
    private final ArrayDeque<String> open = new ArrayDeque<>();
    private int loops;

    private CallsTest() {
    }

    public static void main(String[] args) throws Exception {
        CallsTest test = new CallsTest();
        test.read(Path.of(args.length > 0 ? args[0] : "src/main/java/BonusLadder.java"));
        test.judge();
        due.end("CallsTest");
    }

    private void read(Path source) throws Exception {
        JavaCompiler compiler = ToolProvider.getSystemJavaCompiler();
        try (StandardJavaFileManager files = compiler.getStandardFileManager(null, null, null)) {
            JavacTask task = (JavacTask) compiler.getTask(null, files, null, List.of("-proc:none"), null,
                    files.getJavaFileObjects(source));
            Iterable<? extends CompilationUnitTree> units = task.parse();
            task.analyze();
            for (CompilationUnitTree unit : units) {
                new Reader(Trees.instance(task)).scan(unit, null);
            }
        }
    }

    private void judge() {
        due.holds("the face is found", faces.size() == 54);
        due.holds("loops are found", loops > 30);
        for (String method : calls.keySet()) {
            int deep = depth(method);
            if (faces.contains(method)) {
                due.holds("rule 11: " + method + " goes " + deep + " calls deep", deep <= DEEPEST);
            }
            for (String called : calls.get(method)) {
                due.holds("rule 4: " + method + " calls " + called,
                        called.startsWith("BonusLadder") || LIBRARY.contains(called));
            }
        }
        for (String maker : made) {
            due.holds("rule 12: " + maker + " makes an object", maker.endsWith("<init>") || maker.endsWith("<field>"));
        }
        due.holds("rule 12: what is made is found", !made.isEmpty());
    }

    /** Calls that stand open at once from this one on, those of the library too. */
    private int depth(String method) {
        if (open.contains(method)) {
            due.is("rule 8: no recursion", method, "");
            return 0;
        }
        if (!depths.containsKey(method)) {
            open.push(method);
            int deepest = 0;
            for (String called : calls.getOrDefault(method, Set.of())) {
                deepest = Math.max(deepest, depth(called));
            }
            open.pop();
            depths.put(method, deepest + 1);
        }
        return depths.get(method);
    }

    /** Notes each call and each object that is made, with the method in which it stands. */
    private final class Reader extends TreePathScanner<Void, Void> {
        private final Trees trees;
        private final ArrayDeque<String> inside = new ArrayDeque<>();
        private String method;

        Reader(Trees trees) {
            this.trees = trees;
        }

        @Override
        public Void visitClass(ClassTree tree, Void none) {
            inside.push(inside.isEmpty() ? tree.getSimpleName().toString()
                    : inside.peek() + "." + tree.getSimpleName());
            String before = method;
            method = inside.peek() + ".<field>";
            super.visitClass(tree, none);
            method = before;
            inside.pop();
            return null;
        }

        @Override
        public Void visitMethod(MethodTree tree, Void none) {
            String before = method;
            Element element = trees.getElement(getCurrentPath());
            method = name((ExecutableElement) element);
            calls.putIfAbsent(method, new TreeSet<>());
            if (element.getModifiers().contains(javax.lang.model.element.Modifier.PUBLIC) && !method.endsWith("<init>")) {
                faces.add(method);
            }
            super.visitMethod(tree, none);
            method = before;
            return null;
        }

        @Override
        public Void visitMethodInvocation(MethodInvocationTree tree, Void none) {
            called();
            return super.visitMethodInvocation(tree, none);
        }

        @Override
        public Void visitNewClass(NewClassTree tree, Void none) {
            called();
            made.add(method);
            return super.visitNewClass(tree, none);
        }

        @Override
        public Void visitNewArray(NewArrayTree tree, Void none) {
            made.add(method);
            return super.visitNewArray(tree, none);
        }

        @Override
        public Void visitForLoop(ForLoopTree tree, Void none) {
            loops++;
            due.holds("rule 9: a bound of a loop in " + method, tree.getCondition() != null);
            return super.visitForLoop(tree, none);
        }

        @Override
        public Void visitWhileLoop(WhileLoopTree tree, Void none) {
            loops++;
            due.holds("rule 9: a bound of a loop in " + method, tree.getCondition().toString().contains(" < "));
            return super.visitWhileLoop(tree, none);
        }

        @Override
        public Void visitDoWhileLoop(DoWhileLoopTree tree, Void none) {
            loops++;
            due.holds("rule 9: a bound of a loop in " + method, tree.getCondition().toString().contains(" < "));
            return super.visitDoWhileLoop(tree, none);
        }

        private void called() {
            ExecutableElement element = (ExecutableElement) trees.getElement(getCurrentPath());
            calls.computeIfAbsent(method, any -> new TreeSet<>()).add(name(element));
        }

        /** By its classes and its own name alone: the class has no two methods of one name. */
        private String name(ExecutableElement element) {
            String owner = element.getEnclosingElement().toString();
            return (owner.startsWith("java.lang.") ? owner.substring("java.lang.".length()) : owner) + "."
                    + element.getSimpleName();
        }
    }
}
