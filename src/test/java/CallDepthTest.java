import com.sun.source.tree.CompilationUnitTree;
import com.sun.source.tree.MethodInvocationTree;
import com.sun.source.tree.MethodTree;
import com.sun.source.tree.NewClassTree;
import com.sun.source.tree.VariableTree;
import com.sun.source.util.JavacTask;
import com.sun.source.util.TreePathScanner;
import com.sun.source.util.Trees;
import java.io.IOException;
import java.nio.file.Path;
import java.util.ArrayList;
import java.util.HashSet;
import java.util.List;
import java.util.Map;
import java.util.Set;
import java.util.TreeMap;
import java.util.TreeSet;
import javax.lang.model.element.Element;
import javax.tools.JavaCompiler;
import javax.tools.StandardJavaFileManager;
import javax.tools.ToolProvider;

/** Rules 8 and 11 of ../shared/LANGUAGE.md: how deep calls go, and which of them come back to themselves. */
public final class CallDepthTest {
    private static final int DEEPEST = 8;
    private static final Set<Set<String>> RECURSIONS = Set.of(
        Set.of("Reader.condition(int)", "Reader.claim(int)"),
        Set.of("Kin.waysOf(int,int)", "Kin.waysOfKnot(int,int)"));

    private CallDepthTest() {
    }

    public static void main(String[] args) throws IOException {
        Map<String, Set<String>> calls = callsOf(Path.of("src/main/java/SleightHouse.java"));
        Map<String, Set<String>> reach = reachOf(calls);
        Due.is("methods that are seen", calls.size() > 100, true);
        Due.is("recursions: " + recursions(reach), recursions(reach).equals(RECURSIONS), true);
        for (String method : calls.keySet()) {
            List<String> way = longest(method, calls, reach, Set.of());
            Due.is("at most " + DEEPEST + " deep: " + way, way.size() <= DEEPEST, true);
        }
        Due.finish();
    }

    /** By each method the methods that it calls, the library's too. */
    private static Map<String, Set<String>> callsOf(Path source) throws IOException {
        JavaCompiler compiler = ToolProvider.getSystemJavaCompiler();
        try (StandardJavaFileManager files = compiler.getStandardFileManager(null, null, null)) {
            JavacTask task = (JavacTask) compiler.getTask(null, files, null, List.of("-proc:none"), null,
                files.getJavaFileObjects(source));
            Iterable<? extends CompilationUnitTree> units = task.parse();
            task.analyze();
            CallScanner scanner = new CallScanner(Trees.instance(task));
            scanner.scan(units, null);
            return scanner.calls;
        }
    }

    private static Map<String, Set<String>> reachOf(Map<String, Set<String>> calls) {
        Map<String, Set<String>> reach = new TreeMap<>();
        for (String method : calls.keySet()) {
            Set<String> seen = new TreeSet<>();
            List<String> open = new ArrayList<>(calls.get(method));
            while (!open.isEmpty()) {
                String next = open.remove(open.size() - 1);
                if (seen.add(next)) {
                    open.addAll(calls.getOrDefault(next, Set.of()));
                }
            }
            reach.put(method, seen);
        }
        return reach;
    }

    private static boolean leadsTo(Map<String, Set<String>> reach, String from, String to) {
        return reach.getOrDefault(from, Set.of()).contains(to);
    }

    private static Set<Set<String>> recursions(Map<String, Set<String>> reach) {
        Set<Set<String>> all = new HashSet<>();
        for (String method : reach.keySet()) {
            Set<String> circle = new TreeSet<>();
            for (String other : reach.keySet()) {
                if (leadsTo(reach, method, other) && leadsTo(reach, other, method)) {
                    circle.add(other);
                }
            }
            if (!circle.isEmpty()) {
                all.add(circle);
            }
        }
        return all;
    }

    /** The longest way down that no method is on twice. */
    private static List<String> longest(String method, Map<String, Set<String>> calls, Map<String, Set<String>> reach,
            Set<String> above) {
        Set<String> on = new TreeSet<>(above);
        on.add(method);
        List<String> best = List.of();
        for (String next : calls.getOrDefault(method, Set.of())) {
            if (!on.contains(next)) {
                Set<String> circle = leadsTo(reach, next, method) ? on : Set.of();
                List<String> way = longest(next, calls, reach, circle);
                best = way.size() > best.size() ? way : best;
            }
        }
        List<String> all = new ArrayList<>(List.of(method));
        all.addAll(best);
        return all;
    }

    /** What stands outside methods is done by the constructors. */
    private static final class CallScanner extends TreePathScanner<Void, Void> {
        private final Map<String, Set<String>> calls = new TreeMap<>();
        private final Trees trees;
        private String method = "";

        CallScanner(Trees trees) {
            this.trees = trees;
        }

        private String nameOf(Element element) {
            return element.getEnclosingElement().getSimpleName() + "." + element;
        }

        private void note() {
            Element called = trees.getElement(getCurrentPath());
            boolean ofObject = called == null || called.getEnclosingElement().toString().equals("java.lang.Object");
            if (!ofObject) {
                calls.computeIfAbsent(method, m -> new TreeSet<>()).add(nameOf(called));
            }
        }

        @Override
        public Void visitVariable(VariableTree tree, Void nothing) {
            if (!method.isEmpty()) {
                return super.visitVariable(tree, nothing);
            }
            for (Element member : trees.getElement(getCurrentPath().getParentPath()).getEnclosedElements()) {
                if (member.getSimpleName().contentEquals("<init>")) {
                    method = nameOf(member);
                    super.visitVariable(tree, nothing);
                }
            }
            method = "";
            return null;
        }

        @Override
        public Void visitMethod(MethodTree tree, Void nothing) {
            method = nameOf(trees.getElement(getCurrentPath()));
            calls.computeIfAbsent(method, m -> new TreeSet<>());
            super.visitMethod(tree, nothing);
            method = "";
            return null;
        }

        @Override
        public Void visitMethodInvocation(MethodInvocationTree tree, Void nothing) {
            note();
            return super.visitMethodInvocation(tree, nothing);
        }

        @Override
        public Void visitNewClass(NewClassTree tree, Void nothing) {
            note();
            return super.visitNewClass(tree, nothing);
        }
    }
}
