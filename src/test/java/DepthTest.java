import com.sun.source.tree.ClassTree;
import com.sun.source.tree.CompilationUnitTree;
import com.sun.source.tree.MethodInvocationTree;
import com.sun.source.tree.MethodTree;
import com.sun.source.tree.NewClassTree;
import com.sun.source.util.JavacTask;
import com.sun.source.util.TreePathScanner;
import com.sun.source.util.Trees;
import java.io.IOException;
import java.nio.file.Path;
import java.util.ArrayList;
import java.util.List;
import java.util.Map;
import java.util.Set;
import java.util.TreeMap;
import java.util.TreeSet;
import javax.lang.model.element.Element;
import javax.lang.model.element.ExecutableElement;
import javax.tools.JavaCompiler;
import javax.tools.StandardJavaFileManager;
import javax.tools.ToolProvider;

/**
 * LANGUAGE.md, rule 11: calls that are no recursion go at most eight deep. A chain may come to each
 * method once, so that a recursion counts as many levels as it has methods.
 */
public final class DepthTest {
    private static final int MOST_DEPTH = 8;
    private static final Map<String, Set<String>> CALLS = new TreeMap<>();

    public static void main(String[] args) throws IOException {
        String told = System.getenv("LOST_SEVENS_SOURCE");
        readCalls(Path.of(told == null ? "src/main/java/LostSevens.java" : told));
        Due.due("methods are found", CALLS.size() > 100, true);
        Due.due("calls are found", CALLS.get("LostSevens.send(int,int,int,int,int)").size() > 4, true);
        for (String method : CALLS.keySet()) {
            List<String> chain = deepest(method, List.of());
            Due.due(chain.toString(), chain.size() <= MOST_DEPTH, true);
        }
        recursions();
        Due.close();
    }

    /** Rule 8: a recursion carries its depth. These two do (of two methods each); mind a new one. */
    private static void recursions() {
        Set<String> found = new TreeSet<>();
        for (String method : CALLS.keySet()) {
            if (reachable(method).contains(method)) {
                found.add(method.substring(0, method.indexOf('(')));
            }
        }
        Due.due("recursions", found.toString(), "[LostSevens.Router.goOn, LostSevens.Router.goTo, "
                + "LostSevens.Seeker.chooseAt, LostSevens.Seeker.goOnFrom]");
    }

    private static Set<String> reachable(String from) {
        Set<String> reached = new TreeSet<>();
        List<String> open = List.copyOf(CALLS.get(from));
        while (!open.isEmpty()) {
            Set<String> next = new TreeSet<>();
            for (String method : open) {
                if (reached.add(method)) {
                    next.addAll(CALLS.get(method));
                }
            }
            open = List.copyOf(next);
        }
        return reached;
    }

    private static List<String> deepest(String method, List<String> above) {
        List<String> here = new ArrayList<>(above);
        here.add(method);
        List<String> best = here;
        for (String next : CALLS.get(method)) {
            if (!here.contains(next)) {
                List<String> chain = deepest(next, here);
                best = chain.size() > best.size() ? chain : best;
            }
        }
        return best;
    }

    private static void readCalls(Path source) throws IOException {
        JavaCompiler compiler = ToolProvider.getSystemJavaCompiler();
        StandardJavaFileManager files = compiler.getStandardFileManager(null, null, null);
        JavacTask task = (JavacTask) compiler.getTask(null, files, null, List.of("-proc:none"), null,
                files.getJavaFileObjects(source));
        Iterable<? extends CompilationUnitTree> units = task.parse();
        task.analyze();
        for (CompilationUnitTree unit : units) {
            new Reader(Trees.instance(task)).scan(unit, null);
        }
    }

    /** What stands outside methods (fields' first values) counts to its class's constructor. */
    private static final class Reader extends TreePathScanner<Void, Void> {
        private final Trees trees;
        private String caller = "";
        private String constructor = "";

        Reader(Trees trees) {
            this.trees = trees;
        }

        @Override
        public Void visitClass(ClassTree tree, Void none) {
            String before = caller;
            String beforeConstructor = constructor;
            Element type = trees.getElement(getCurrentPath());
            for (Element member : type.getEnclosedElements()) {
                if (member instanceof ExecutableElement) {
                    CALLS.computeIfAbsent(name(member), k -> new TreeSet<>());
                    constructor = member.getSimpleName().contentEquals("<init>") ? name(member) : constructor;
                }
            }
            caller = constructor;
            super.visitClass(tree, none);
            caller = before;
            constructor = beforeConstructor;
            return null;
        }

        @Override
        public Void visitMethod(MethodTree tree, Void none) {
            caller = name(trees.getElement(getCurrentPath()));
            super.visitMethod(tree, none);
            caller = constructor;
            return null;
        }

        @Override
        public Void visitMethodInvocation(MethodInvocationTree tree, Void none) {
            note(trees.getElement(getCurrentPath()));
            return super.visitMethodInvocation(tree, none);
        }

        @Override
        public Void visitNewClass(NewClassTree tree, Void none) {
            note(trees.getElement(getCurrentPath()));
            return super.visitNewClass(tree, none);
        }

        private void note(Element called) {
            String name = called == null ? "" : name(called);
            if (name.startsWith("LostSevens")) {
                CALLS.computeIfAbsent(name, k -> new TreeSet<>());
                CALLS.get(caller).add(name);
            }
        }

        private static String name(Element method) {
            return method.getEnclosingElement() + "." + method;
        }
    }
}
