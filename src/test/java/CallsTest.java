import com.sun.source.tree.CompilationUnitTree;
import com.sun.source.tree.MethodInvocationTree;
import com.sun.source.tree.MethodTree;
import com.sun.source.tree.NewArrayTree;
import com.sun.source.tree.NewClassTree;
import com.sun.source.util.JavacTask;
import com.sun.source.util.TreePathScanner;
import com.sun.source.util.Trees;
import java.io.File;
import java.io.IOException;
import java.util.HashSet;
import java.util.List;
import java.util.Map;
import java.util.Set;
import java.util.TreeMap;
import java.util.TreeSet;
import javax.lang.model.element.Element;
import javax.lang.model.element.ElementKind;
import javax.lang.model.element.Modifier;
import javax.tools.JavaCompiler;
import javax.tools.StandardJavaFileManager;
import javax.tools.ToolProvider;

/** Who calls whom in the class: how deep calls go, and which ones call themselves (LANGUAGE.md, rules 8, 11, 12). */
public final class CallsTest {
    private static final File SOURCE = new File("src/main/java/GuineaHours.java");
    private static final int DEEPEST = 8;
    private static final Map<String, Set<String>> calls = new TreeMap<>();
    private static final Set<String> privateStatic = new HashSet<>();
    private static int wrong = 0;

    public static void main(String[] args) throws IOException {
        readCalls();
        check(calls.size() > 53, "only " + calls.size() + " methods were read");
        check(calls.containsKey("GuineaHours.ask"), "ask() was not read");
        recursionIsPrivateAndStatic();
        String deepest = "";
        for (String method : calls.keySet()) {
            String chain = longestFrom(method, new HashSet<>(Set.of(method)));
            check(lengthOf(chain) <= DEEPEST, "deep: " + chain);
            deepest = lengthOf(chain) > lengthOf(deepest) ? chain : deepest;
        }
        noCallMakesAnObject();
        System.out.println(calls.size() + " methods, calls at most " + lengthOf(deepest) + " deep, " + wrong + " faults");
        if (wrong != 0) {
            System.exit(1);
        }
    }

    private static void check(boolean fine, String what) {
        if (!fine) {
            wrong++;
            System.out.println(what);
        }
    }

    private static void readCalls() throws IOException {
        JavaCompiler compiler = ToolProvider.getSystemJavaCompiler();
        try (StandardJavaFileManager files = compiler.getStandardFileManager(null, null, null)) {
            JavacTask task = (JavacTask) compiler.getTask(null, files, null, List.of("-proc:none"), null,
                files.getJavaFileObjects(SOURCE));
            Iterable<? extends CompilationUnitTree> units = task.parse();
            task.analyze();
            Reader reader = new Reader(Trees.instance(task));
            for (CompilationUnitTree unit : units) {
                reader.scan(unit, null);
            }
        }
    }

    private static final class Reader extends TreePathScanner<Void, Void> {
        private final Trees trees;
        private String caller = "fields";

        Reader(Trees trees) {
            this.trees = trees;
        }

        @Override
        public Void visitMethod(MethodTree tree, Void nothing) {
            Element method = trees.getElement(getCurrentPath());
            String before = caller;
            caller = nameOf(method);
            calls.computeIfAbsent(caller, name -> new TreeSet<>());
            if (method.getModifiers().containsAll(Set.of(Modifier.PRIVATE, Modifier.STATIC))) {
                privateStatic.add(caller);
            }
            super.visitMethod(tree, nothing);
            caller = before;
            return null;
        }

        @Override
        public Void visitMethodInvocation(MethodInvocationTree tree, Void nothing) {
            add(trees.getElement(getCurrentPath()));
            return super.visitMethodInvocation(tree, nothing);
        }

        @Override
        public Void visitNewClass(NewClassTree tree, Void nothing) {
            add(trees.getElement(getCurrentPath()));
            return super.visitNewClass(tree, nothing);
        }

        @Override
        public Void visitNewArray(NewArrayTree tree, Void nothing) {
            add("array.new");
            return super.visitNewArray(tree, nothing);
        }

        private void add(Element called) {
            add(nameOf(called));
        }

        private void add(String called) {
            calls.computeIfAbsent(caller, name -> new TreeSet<>()).add(called);
        }

        private static String nameOf(Element method) {
            String name = method.getKind() == ElementKind.CONSTRUCTOR ? "new" : method.getSimpleName().toString();
            return method.getEnclosingElement() + "." + name;
        }
    }

    /** Calls of the library stand at the end of a chain, too. */
    private static String longestFrom(String method, Set<String> open) {
        String longest = "";
        for (String called : calls.getOrDefault(method, Set.of())) {
            if (open.add(called)) {
                String chain = longestFrom(called, open);
                longest = lengthOf(chain) > lengthOf(longest) ? chain : longest;
                open.remove(called);
            }
        }
        return longest.isEmpty() ? method : method + " > " + longest;
    }

    private static int lengthOf(String chain) {
        return chain.isEmpty() ? 0 : chain.split(" > ").length;
    }

    /** Only a private static method may come back to itself, and only by its own call. */
    private static void recursionIsPrivateAndStatic() {
        for (String method : calls.keySet()) {
            if (calls.get(method).contains(method)) {
                check(privateStatic.contains(method), "calls itself: " + method);
            }
            for (String called : calls.get(method)) {
                check(called.equals(method) || !reaches(called, method, new HashSet<>()), "a ring: " + method + ", " + called);
            }
        }
    }

    private static boolean reaches(String from, String to, Set<String> seen) {
        if (from.equals(to)) {
            return true;
        }
        for (String next : calls.getOrDefault(from, Set.of())) {
            if (seen.add(next) && reaches(next, to, seen)) {
                return true;
            }
        }
        return false;
    }

    /** All calls of a run live in one room: rows are made in constructors alone. */
    private static void noCallMakesAnObject() {
        for (String method : calls.keySet()) {
            boolean makes = calls.get(method).stream().anyMatch(called -> called.matches(".*\\.(new|clone|copyOf|copyOfRange)"));
            check(!makes || method.equals("fields") || method.endsWith(".new"), "makes an object: " + method);
        }
    }
}
