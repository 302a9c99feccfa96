import com.sun.source.tree.ClassTree;
import com.sun.source.tree.CompilationUnitTree;
import com.sun.source.tree.MethodInvocationTree;
import com.sun.source.tree.MethodTree;
import com.sun.source.tree.NewClassTree;
import com.sun.source.util.JavacTask;
import com.sun.source.util.TreePathScanner;
import com.sun.source.util.Trees;
import java.io.IOException;
import java.nio.file.Path;
import java.util.ArrayDeque;
import java.util.Deque;
import java.util.HashMap;
import java.util.HashSet;
import java.util.List;
import java.util.Map;
import java.util.Set;
import java.util.TreeSet;
import javax.lang.model.element.Element;
import javax.lang.model.element.Modifier;
import javax.tools.JavaCompiler;
import javax.tools.StandardJavaFileManager;
import javax.tools.ToolProvider;

/** Who calls whom in the class, by rules 4, 8, 11 and 12 of ../shared/LANGUAGE.md. */
final class CallsTest {
    /** The part of the library that the class uses now; all of it is listed in rule 4. */
    private static final Set<String> LIBRARY = Set.of("String.length", "String.charAt", "Math.min", "Math.max",
        "Integer.bitCount", "System.arraycopy", "Arrays.copyOf");
    private static final int DEEPEST = 8;

    private final Trees trees;
    private final Map<Element, Set<Element>> calls = new HashMap<>();
    private final Set<String> library = new TreeSet<>();

    private CallsTest(Trees trees) {
        this.trees = trees;
    }

    public static void main(String[] args) throws IOException {
        JavaCompiler compiler = ToolProvider.getSystemJavaCompiler();
        try (StandardJavaFileManager files = compiler.getStandardFileManager(null, null, null)) {
            JavacTask task = (JavacTask) compiler.getTask(null, files, null, List.of("-proc:none"), null,
                files.getJavaFileObjects(Path.of("src/main/java/ForgetHeirs.java")));
            Iterable<? extends CompilationUnitTree> units = task.parse();
            task.analyze();
            CallsTest test = new CallsTest(Trees.instance(task));
            for (CompilationUnitTree unit : units) {
                test.look(unit);
            }
            test.judge();
        }
        Due.end("CallsTest");
    }

    private void look(CompilationUnitTree unit) {
        new TreePathScanner<Void, Deque<Element>>() {
            @Override
            public Void visitClass(ClassTree tree, Deque<Element> open) {
                open.push(trees.getElement(getCurrentPath()));
                super.visitClass(tree, open);
                open.pop();
                return null;
            }

            @Override
            public Void visitMethod(MethodTree tree, Deque<Element> open) {
                open.push(trees.getElement(getCurrentPath()));
                calls.computeIfAbsent(open.peek(), key -> new HashSet<>());
                super.visitMethod(tree, open);
                open.pop();
                return null;
            }

            @Override
            public Void visitMethodInvocation(MethodInvocationTree tree, Deque<Element> open) {
                note(open.peek(), trees.getElement(getCurrentPath()));
                return super.visitMethodInvocation(tree, open);
            }

            @Override
            public Void visitNewClass(NewClassTree tree, Deque<Element> open) {
                note(open.peek(), trees.getElement(getCurrentPath()));
                return super.visitNewClass(tree, open);
            }
        }.scan(unit, new ArrayDeque<>());
    }

    private void note(Element from, Element to) {
        String name = to.getEnclosingElement().getSimpleName() + "." + to.getSimpleName();
        if (trees.getPath(to) != null) {
            calls.computeIfAbsent(from, key -> new HashSet<>()).add(to);
        } else if (!name.equals("Object.<init>")) {
            library.add(name);
        }
    }

    private void judge() {
        Due.due("methods were seen", calls.size() > 100, true);
        for (String name : library) {
            Due.due("rule 4: " + name, LIBRARY.contains(name), true);
        }
        for (Element method : calls.keySet()) {
            if (reached(method).contains(method)) {
                Due.due("rule 8: " + method + " goes back to itself, and is private",
                    method.getModifiers().contains(Modifier.PRIVATE), true);
            }
            int deep = deep(method, new HashSet<>());
            Due.due("rule 11: from " + method + " " + deep + " deep", deep <= DEEPEST, true);
        }
    }

    private Set<Element> reached(Element from) {
        Set<Element> reached = new HashSet<>();
        Deque<Element> waiting = new ArrayDeque<>(List.of(from));
        while (!waiting.isEmpty()) {
            for (Element to : calls.getOrDefault(waiting.pop(), Set.of())) {
                if (reached.add(to)) {
                    waiting.push(to);
                }
            }
        }
        return reached;
    }

    /** How many calls stand open at once, of those that call one another each once. */
    private int deep(Element from, Set<Element> open) {
        int most = 0;
        open.add(from);
        for (Element to : calls.getOrDefault(from, Set.of())) {
            if (!open.contains(to)) {
                most = Math.max(most, deep(to, open));
            }
        }
        open.remove(from);
        return most + 1;
    }
}
