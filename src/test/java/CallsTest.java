import com.sun.source.tree.CompilationUnitTree;
import com.sun.source.tree.MethodInvocationTree;
import com.sun.source.tree.MethodTree;
import com.sun.source.tree.NewArrayTree;
import com.sun.source.tree.NewClassTree;
import com.sun.source.tree.ThrowTree;
import com.sun.source.tree.Tree;
import com.sun.source.util.JavacTask;
import com.sun.source.util.TreePathScanner;
import com.sun.source.util.Trees;
import java.nio.file.Files;
import java.nio.file.Path;
import java.util.ArrayList;
import java.util.LinkedHashSet;
import java.util.List;
import java.util.Map;
import java.util.Set;
import java.util.TreeMap;
import java.util.TreeSet;
import javax.lang.model.element.Element;
import javax.lang.model.element.Modifier;
import javax.tools.JavaCompiler;
import javax.tools.StandardJavaFileManager;
import javax.tools.ToolProvider;

/** What LANGUAGE.md asks of calls: which ones of the library, how deep, which come back to themselves, what is made. */
public final class CallsTest {
    private static final int DEEPEST = 8;
    private static final Set<String> LIBRARY = Set.of("java.lang.Integer.bitCount", "java.lang.Math.min",
        "java.lang.Math.max", "java.lang.System.arraycopy", "java.lang.String.length", "java.lang.String.charAt",
        "java.lang.Object.<init>");
    // each of them carries how many are open as an argument, and refuses a seventh
    private static final Set<String> COME_BACK = Set.of("Law.readSum", "Law.readProduct", "Law.readUnit",
        "Law.readPair", "Steps.readSteps", "Steps.readStep", "Steps.readAgain", "Steps.doSteps");

    private final Map<String, Set<String>> calls = new TreeMap<>();
    private final Set<String> fromOutside = new TreeSet<>();
    private final Set<String> face = new TreeSet<>();
    private final List<String> making = new ArrayList<>();
    private int wrong = 0;

    public static void main(String[] args) throws Exception {
        Path root = Path.of(args.length > 0 ? args[0] : ".");
        CallsTest test = new CallsTest();
        test.read(root.resolve("src/main/java/StruckPage.java"));
        test.judge();
        System.out.println(test.wrong == 0 ? "calls are as asked" : test.wrong + " things are not as asked");
        if (test.wrong != 0) {
            System.exit(1);
        }
    }

    private void ask(boolean fine, String what) {
        if (!fine) {
            wrong++;
            System.out.println("rule " + what);
        }
    }

    private void read(Path source) throws Exception {
        JavaCompiler compiler = ToolProvider.getSystemJavaCompiler();
        Path out = Files.createTempDirectory("calls");
        try (StandardJavaFileManager files = compiler.getStandardFileManager(null, null, null)) {
            List<String> options = List.of("-proc:none", "-d", out.toString());
            JavacTask task = (JavacTask) compiler.getTask(null, files, null, options, null,
                files.getJavaFileObjects(source));
            Iterable<? extends CompilationUnitTree> units = task.parse();
            task.analyze();
            for (CompilationUnitTree unit : units) {
                new Reader(Trees.instance(task)).scan(unit, null);
            }
        }
        Files.delete(out);
    }

    private void judge() {
        ask(face.size() == 40, "1: of the face were read " + face);
        for (String name : fromOutside) {
            ask(LIBRARY.contains(name), "4: a call of " + name);
        }
        for (String name : face) {
            List<String> chain = longest(name, new LinkedHashSet<>(Set.of(name)));
            ask(chain.size() <= DEEPEST, "11: calls go " + chain.size() + " deep: " + chain);
        }
        for (String name : calls.keySet()) {
            ask(reached(name).contains(name) == COME_BACK.contains(name), "8: who comes back to itself: " + name);
        }
        for (String place : making) {
            ask(false, "12: an object is made by " + place);
        }
    }

    /** The longest chain of calls from one on; who stands in it already is not called again. */
    private List<String> longest(String name, Set<String> open) {
        List<String> best = new ArrayList<>();
        for (String next : calls.getOrDefault(name, Set.of())) {
            if (open.add(next)) {
                List<String> chain = longest(next, open);
                open.remove(next);
                best = chain.size() > best.size() ? chain : best;
            }
        }
        best.add(0, name);
        return best;
    }

    /** All that is called by one, and by those, and so on. */
    private Set<String> reached(String name) {
        Set<String> seen = new LinkedHashSet<>();
        List<String> waiting = new ArrayList<>(calls.getOrDefault(name, Set.of()));
        while (!waiting.isEmpty()) {
            String next = waiting.remove(waiting.size() - 1);
            if (seen.add(next)) {
                waiting.addAll(calls.getOrDefault(next, Set.of()));
            }
        }
        return seen;
    }

    private final class Reader extends TreePathScanner<Void, Void> {
        private final Trees trees;
        private String method = "";
        private boolean isMaker = true;
        private boolean isThrown = false;

        Reader(Trees trees) {
            this.trees = trees;
        }

        @Override
        public Void visitMethod(MethodTree tree, Void none) {
            Element element = trees.getElement(getCurrentPath());
            method = nameOf(element);
            isMaker = tree.getReturnType() == null;
            calls.putIfAbsent(method, new TreeSet<>());
            if (element.getModifiers().contains(Modifier.PUBLIC)) {
                face.add(method);
            }
            super.visitMethod(tree, none);
            method = "";
            isMaker = true;
            return null;
        }

        @Override
        public Void visitMethodInvocation(MethodInvocationTree tree, Void none) {
            note(trees.getElement(getCurrentPath()));
            return super.visitMethodInvocation(tree, none);
        }

        @Override
        public Void visitThrow(ThrowTree tree, Void none) {
            isThrown = true;
            super.visitThrow(tree, none);
            isThrown = false;
            return null;
        }

        @Override
        public Void visitNewClass(NewClassTree tree, Void none) {
            noteMaking(tree);
            return super.visitNewClass(tree, none);
        }

        @Override
        public Void visitNewArray(NewArrayTree tree, Void none) {
            noteMaking(tree);
            return super.visitNewArray(tree, none);
        }

        private void noteMaking(Tree tree) {
            if (!isMaker && !isThrown) {
                making.add(method + ": " + tree);
            }
        }

        private void note(Element called) {
            calls.computeIfAbsent(method, m -> new TreeSet<>()).add(nameOf(called));
            if (!isOwn(called)) {
                fromOutside.add(called.getEnclosingElement() + "." + called.getSimpleName());
            }
        }

        private boolean isOwn(Element called) {
            Element around = called.getEnclosingElement();
            return (around.toString() + ".").startsWith("StruckPage.");
        }

        private String nameOf(Element element) {
            return element.getEnclosingElement().getSimpleName() + "." + element.getSimpleName();
        }
    }
}
