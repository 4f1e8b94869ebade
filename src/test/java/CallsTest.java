import com.sun.source.tree.CompilationUnitTree;
import com.sun.source.tree.MethodInvocationTree;
import com.sun.source.tree.MethodTree;
import com.sun.source.tree.NewClassTree;
import com.sun.source.util.JavacTask;
import com.sun.source.util.TreePathScanner;
import com.sun.source.util.Trees;
import java.nio.file.Path;
import java.util.List;
import java.util.Set;
import java.util.TreeMap;
import java.util.TreeSet;
import javax.lang.model.element.Element;
import javax.tools.JavaCompiler;
import javax.tools.StandardJavaFileManager;
import javax.tools.ToolProvider;

/** Which methods of the class call which, as the compiler itself resolves the names: rules 4, 8 and 11. */
public final class CallsTest {
    /** One less than rule 11 allows, as the call of whoever uses the class may be counted too. */
    private static final int MOST_DEEP = 7;
    private static final Set<String> LIBRARY = Set.of("java.lang.Math.min(int,int)", "java.lang.Math.max(long,long)",
        "java.lang.Integer.bitCount(int)", "java.lang.Object.Object()",
        "java.lang.System.arraycopy(java.lang.Object,int,java.lang.Object,int,int)");

    private static int wrong = 0;

    private final TreeMap<String, TreeSet<String>> calls = new TreeMap<>();
    private final TreeMap<String, Integer> depths = new TreeMap<>();
    private final TreeSet<String> open = new TreeSet<>();

    public static void main(String[] args) throws Exception {
        CallsTest test = new CallsTest();
        test.collect(Path.of(args[0]));
        int deepest = 0;
        for (String method : List.copyOf(test.calls.keySet())) {
            deepest = Math.max(deepest, test.depthOf(method));
        }
        if (deepest > MOST_DEEP) {
            fault("calls go " + deepest + " deep: " + test.chainOf(deepest));
        }
        if (test.calls.size() < 32) {
            fault("only " + test.calls.size() + " methods were found");
        }
        System.out.println("calls: " + test.calls.size() + " methods, " + deepest + " deep, " + wrong + " wrong");
        if (wrong != 0) {
            System.exit(1);
        }
    }

    private static void fault(String what) {
        wrong++;
        System.out.println("calls: " + what);
    }

    private void collect(Path source) throws Exception {
        JavaCompiler compiler = ToolProvider.getSystemJavaCompiler();
        try (StandardJavaFileManager files = compiler.getStandardFileManager(null, null, null)) {
            JavacTask task = (JavacTask) compiler.getTask(null, files, null, List.of("-proc:none"), null,
                files.getJavaFileObjects(source));
            Iterable<? extends CompilationUnitTree> units = task.parse();
            task.analyze();
            new Collector(Trees.instance(task)).scan(units, null);
        }
    }

    /** Recursion is not needed anywhere, so a method that is open already is a fault. */
    private int depthOf(String method) {
        if (depths.containsKey(method)) {
            return depths.get(method);
        }
        if (!open.add(method)) {
            fault(method + " calls itself");
            return 0;
        }
        int deepest = 0;
        for (String called : calls.get(method)) {
            if (calls.containsKey(called)) {
                deepest = Math.max(deepest, depthOf(called));
            } else if (!LIBRARY.contains(called)) {
                fault(method + " calls " + called);
            }
        }
        open.remove(method);
        depths.put(method, deepest + 1);
        return deepest + 1;
    }

    private String chainOf(int depth) {
        StringBuilder chain = new StringBuilder();
        Set<String> allowed = depths.keySet();
        for (int left = depth; left > 0; left--) {
            int wanted = left;
            String next = allowed.stream().filter(m -> depths.getOrDefault(m, 0) == wanted).findFirst().orElse("");
            chain.append(next).append(left > 1 ? ", " : "");
            allowed = calls.getOrDefault(next, new TreeSet<>());
        }
        return chain.toString();
    }

    private final class Collector extends TreePathScanner<Void, Void> {
        private final Trees trees;
        private String method = "";

        Collector(Trees trees) {
            this.trees = trees;
        }

        private String nameOfThis() {
            Element found = trees.getElement(getCurrentPath());
            Element home = found.getEnclosingElement();
            return home + "." + found;
        }

        @Override
        public Void visitMethod(MethodTree tree, Void nothing) {
            method = nameOfThis();
            calls.put(method, new TreeSet<>());
            return super.visitMethod(tree, nothing);
        }

        @Override
        public Void visitMethodInvocation(MethodInvocationTree tree, Void nothing) {
            calls.get(method).add(nameOfThis());
            return super.visitMethodInvocation(tree, nothing);
        }

        @Override
        public Void visitNewClass(NewClassTree tree, Void nothing) {
            calls.get(method).add(nameOfThis());
            return super.visitNewClass(tree, nothing);
        }
    }
}
