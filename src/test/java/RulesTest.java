import com.sun.source.tree.CompilationUnitTree;
import com.sun.source.tree.ExpressionTree;
import com.sun.source.tree.LiteralTree;
import com.sun.source.tree.MethodInvocationTree;
import com.sun.source.tree.MethodTree;
import com.sun.source.tree.NewArrayTree;
import com.sun.source.tree.NewClassTree;
import com.sun.source.tree.ThrowTree;
import com.sun.source.util.JavacTask;
import com.sun.source.util.TreePathScanner;
import com.sun.source.util.Trees;
import java.io.IOException;
import java.nio.file.Path;
import java.util.ArrayList;
import java.util.HashMap;
import java.util.HashSet;
import java.util.List;
import java.util.Map;
import java.util.Set;
import java.util.TreeMap;
import java.util.TreeSet;
import javax.lang.model.element.Element;
import javax.lang.model.element.ElementKind;
import javax.tools.JavaCompiler;
import javax.tools.StandardJavaFileManager;
import javax.tools.ToolProvider;

/** Those of LANGUAGE.md's rules that can be seen in who calls whom, what is thrown, and what is made: javac tells. */
public final class RulesTest {
    private static final Check CHECK = new Check();
    private static final String SOURCE = "src/main/java/BalconyPort.java";
    private static final int DEEPEST = 8;

    private static final Set<String> LIBRARY = Set.of("String.length", "String.charAt", "String.indexOf", "Integer.bitCount",
        "Integer.numberOfTrailingZeros", "Long.bitCount", "Math.abs", "Math.min", "Math.max", "System.arraycopy", "Arrays.fill");
    private static final Set<String> THROWN = Set.of("IllegalArgumentException", "NoSuchElementException");

    /** Of each method those that it calls; the library's are among these, but call none. */
    private static final Map<String, Set<String>> CALLS = new TreeMap<>();
    private static final Set<String> LIBRARY_CALLS = new TreeSet<>();
    private static final List<String> THROWS = new ArrayList<>();
    private static final List<String> MADE = new ArrayList<>();

    public static void main(String[] args) throws IOException {
        readSource();
        CHECK.sentence("rule 4: the library, only what stands here");
        CHECK.due("calls of the library beside those allowed", "[]", () -> without(LIBRARY_CALLS, LIBRARY));
        CHECK.sentence("rule 6: throw new E(\"a written text\"), no throw in a constructor");
        CHECK.due("there are throws", true, () -> THROWS.size() >= THROWN.size());
        CHECK.due("throws of another kind", "[]", () -> THROWS.stream().filter(t -> !isFine(t)).toList());
        CHECK.sentence("rule 8: the calls that stand open at once stay under 300");
        CHECK.due("those that call one another", "[[readAnd, readNot, readOr, readPart, readProduct, readSum, readTest]]",
            RulesTest::circles);
        CHECK.sentence("rule 11: calls that are no recursion go at most eight deep");
        for (String method : CALLS.keySet()) {
            List<String> chain = deepest(method, new HashMap<>());
            CHECK.due(String.join(" > ", chain), true, () -> chain.size() <= DEEPEST);
        }
        CHECK.sentence("rule 12: what a run makes is counted");
        CHECK.due("made by a call", "[]", () -> MADE);
        CHECK.end("RulesTest");
    }

    private static Set<String> without(Set<String> all, Set<String> allowed) {
        Set<String> rest = new TreeSet<>(all);
        rest.removeAll(allowed);
        return rest;
    }

    private static boolean isFine(String told) {
        String[] words = told.split(" ");
        return words.length == 3 && THROWN.contains(words[0]) && words[1].equals("text") && !words[2].endsWith("<init>");
    }

    private static void readSource() throws IOException {
        JavaCompiler compiler = ToolProvider.getSystemJavaCompiler();
        try (StandardJavaFileManager files = compiler.getStandardFileManager(null, null, null)) {
            JavacTask task = (JavacTask) compiler.getTask(null, files, null, List.of("-proc:none"), null,
                files.getJavaFileObjects(Path.of(SOURCE)));
            Iterable<? extends CompilationUnitTree> units = task.parse();
            task.analyze();
            Look look = new Look(Trees.instance(task));
            for (CompilationUnitTree unit : units) {
                look.scan(unit, null);
            }
        }
    }

    private static String nameOf(Element method) {
        return method.getEnclosingElement().getSimpleName() + "." + method.getSimpleName();
    }

    /** Goes through the tree and writes down what the rules ask about, method by method. */
    private static final class Look extends TreePathScanner<Void, Void> {
        private final Trees trees;
        private String method = "";

        Look(Trees trees) {
            this.trees = trees;
        }

        private Element told() {
            return trees.getElement(getCurrentPath());
        }

        private void add(Element called) {
            boolean isOwn = called.getEnclosingElement().toString().startsWith("BalconyPort");
            if (!method.isEmpty()) {
                CALLS.get(method).add(nameOf(called));
            }
            if (!isOwn && called.getKind() == ElementKind.METHOD) {
                LIBRARY_CALLS.add(nameOf(called));
            }
        }

        @Override
        public Void visitMethod(MethodTree tree, Void none) {
            method = nameOf(told());
            CALLS.computeIfAbsent(method, m -> new TreeSet<>());
            super.visitMethod(tree, none);
            method = "";
            return null;
        }

        @Override
        public Void visitMethodInvocation(MethodInvocationTree tree, Void none) {
            add(told());
            return super.visitMethodInvocation(tree, none);
        }

        @Override
        public Void visitNewClass(NewClassTree tree, Void none) {
            add(told());
            if (!THROWN.contains(tree.getIdentifier().toString())) {
                noteMade();
            }
            return super.visitNewClass(tree, none);
        }

        @Override
        public Void visitNewArray(NewArrayTree tree, Void none) {
            noteMade();
            return super.visitNewArray(tree, none);
        }

        private void noteMade() {
            if (!method.isEmpty() && !method.endsWith("<init>")) {
                MADE.add(method);
            }
        }

        @Override
        public Void visitThrow(ThrowTree tree, Void none) {
            String told = "another";
            if (tree.getExpression() instanceof NewClassTree made) {
                List<? extends ExpressionTree> given = made.getArguments();
                boolean isText = given.isEmpty() || given.size() == 1 && given.get(0) instanceof LiteralTree;
                told = made.getIdentifier() + (isText ? " text " : " reckoned ");
            }
            THROWS.add(told + method);
            return super.visitThrow(tree, none);
        }
    }

    private static Set<String> reached(String from) {
        Set<String> all = new HashSet<>();
        List<String> open = new ArrayList<>(CALLS.getOrDefault(from, Set.of()));
        while (!open.isEmpty()) {
            String method = open.remove(open.size() - 1);
            if (all.add(method)) {
                open.addAll(CALLS.getOrDefault(method, Set.of()));
            }
        }
        return all;
    }

    /** Those that call one another, a method itself among them. */
    private static Set<String> circleOf(String method) {
        Set<String> circle = new TreeSet<>();
        for (String other : reached(method)) {
            if (reached(other).contains(method)) {
                circle.add(other);
            }
        }
        return circle;
    }

    private static Set<String> circles() {
        Set<String> all = new TreeSet<>();
        for (String method : CALLS.keySet()) {
            Set<String> names = new TreeSet<>();
            circleOf(method).forEach(m -> names.add(m.substring(m.indexOf('.') + 1)));
            if (!names.isEmpty()) {
                all.add(names.toString());
            }
        }
        return all;
    }

    /** The longest chain of calls, in which those that call one another are one: that is recursion. */
    private static List<String> deepest(String method, Map<String, List<String>> known) {
        if (known.containsKey(method)) {
            return known.get(method);
        }
        Set<String> level = circleOf(method);
        level.add(method);
        List<String> below = List.of();
        for (String one : level) {
            for (String called : CALLS.getOrDefault(one, Set.of())) {
                List<String> chain = level.contains(called) ? List.of() : deepest(called, known);
                below = chain.size() > below.size() ? chain : below;
            }
        }
        List<String> chain = new ArrayList<>(List.of(method));
        chain.addAll(below);
        known.put(method, chain);
        return chain;
    }
}
