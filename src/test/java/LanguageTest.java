import com.sun.source.tree.BlockTree;
import com.sun.source.tree.ClassTree;
import com.sun.source.tree.CompilationUnitTree;
import com.sun.source.tree.ExpressionTree;
import com.sun.source.tree.MethodInvocationTree;
import com.sun.source.tree.MethodTree;
import com.sun.source.tree.NewArrayTree;
import com.sun.source.tree.NewClassTree;
import com.sun.source.tree.ThrowTree;
import com.sun.source.tree.Tree;
import com.sun.source.tree.VariableTree;
import com.sun.source.util.JavacTask;
import com.sun.source.util.TreePathScanner;
import com.sun.source.util.Trees;
import java.nio.file.Path;
import java.util.ArrayList;
import java.util.Collections;
import java.util.HashMap;
import java.util.LinkedHashMap;
import java.util.LinkedHashSet;
import java.util.List;
import java.util.Map;
import java.util.Set;
import javax.lang.model.element.Element;
import javax.lang.model.element.ElementKind;
import javax.lang.model.element.Modifier;
import javax.tools.JavaCompiler;
import javax.tools.StandardJavaFileManager;
import javax.tools.ToolProvider;

/**
 * What LANGUAGE.md names in rules 4, 5, 6, 8, 11 and 12 and can be seen in the compiler's own tree of the source: sizes,
 * the library that is called, static fields, throws, and what is made outside constructors.
 */
final class LanguageTest {
    private static final int MOST_LINES = 60;
    private static final int DEEPEST = 8;
    private static final int MOST_CLASSES = 12;
    private static final int MOST_PARAMETERS = 7;
    private static final Set<String> LIBRARY = Set.of("java.lang.Math.max", "java.lang.Math.min", "java.lang.Math.abs");
    private static final Set<String> THROWN = Set.of("NoSuchElementException", "IllegalArgumentException");

    private static final Map<Element, Set<Element>> CALLS = new LinkedHashMap<>();
    private static final Map<Element, Integer> DEPTHS = new HashMap<>();

    public static void main(String[] args) throws Exception {
        Tester t = new Tester("LANGUAGE.md");
        JavaCompiler compiler = ToolProvider.getSystemJavaCompiler();
        try (StandardJavaFileManager files = compiler.getStandardFileManager(null, null, null)) {
            JavacTask task = (JavacTask) compiler.getTask(null, files, null, List.of("-proc:none"), null,
                files.getJavaFileObjects(Path.of("src/main/java/EarlyAnswers.java")));
            List<CompilationUnitTree> units = new ArrayList<>();
            task.parse().forEach(units::add);
            task.analyze();
            Trees trees = Trees.instance(task);
            for (CompilationUnitTree unit : units) {
                read(t, unit, trees);
            }
        }
        t.due("methods are seen", CALLS.size() > 100 ? 1 : 0, 1);
        for (Element method : CALLS.keySet()) {
            int deep = depth(t, method, new ArrayList<>());
            t.due("methods open at once by " + method, Math.max(deep, DEEPEST), DEEPEST);
        }
        Tester.end("language");
    }

    private static void read(Tester t, CompilationUnitTree unit, Trees trees) {
        int[] classes = new int[1];
        new TreePathScanner<Void, Element>() {
            @Override
            public Void visitClass(ClassTree tree, Element method) {
                classes[0]++;
                return super.visitClass(tree, method);
            }

            @Override
            public Void visitMethod(MethodTree tree, Element method) {
                Element own = trees.getElement(getCurrentPath());
                CALLS.put(own, new LinkedHashSet<>());
                t.due("parameters of " + own, Math.max(tree.getParameters().size(), MOST_PARAMETERS), MOST_PARAMETERS);
                BlockTree body = tree.getBody();
                if (body != null) {
                    long from = trees.getSourcePositions().getStartPosition(unit, tree);
                    long to = trees.getSourcePositions().getEndPosition(unit, tree);
                    long lines = to < from ? 1
                        : unit.getLineMap().getLineNumber(to) - unit.getLineMap().getLineNumber(from) + 1;
                    t.due("lines of " + own, (int) Math.max(lines, MOST_LINES), MOST_LINES);
                }
                return super.visitMethod(tree, own);
            }

            @Override
            public Void visitMethodInvocation(MethodInvocationTree tree, Element method) {
                note(method);
                Element called = trees.getElement(getCurrentPath());
                String name = called.getEnclosingElement() + "." + called.getSimpleName();
                if (name.startsWith("java") && called.getKind() != ElementKind.CONSTRUCTOR) {
                    t.due("rule 4: " + name, LIBRARY.contains(name) ? 1 : 0, 1);
                }
                return super.visitMethodInvocation(tree, method);
            }

            @Override
            public Void visitNewClass(NewClassTree tree, Element method) {
                note(method);
                boolean thrown = getCurrentPath().getParentPath().getLeaf().getKind() == Tree.Kind.THROW;
                t.due("rule 12: " + tree + " by " + method, thrown || makes(method) ? 1 : 0, 1);
                return super.visitNewClass(tree, method);
            }

            @Override
            public Void visitNewArray(NewArrayTree tree, Element method) {
                t.due("rule 12: " + tree + " by " + method, makes(method) ? 1 : 0, 1);
                return super.visitNewArray(tree, method);
            }

            /** Whether it is a constructor, or what stands beside a field. */
            private boolean makes(Element method) {
                return method == null || method.getKind() == ElementKind.CONSTRUCTOR;
            }

            @Override
            public Void visitThrow(ThrowTree tree, Element method) {
                ExpressionTree thrown = tree.getExpression();
                boolean fine = thrown instanceof NewClassTree made && THROWN.contains(made.getIdentifier().toString())
                    && made.getArguments().stream().allMatch(a -> a.getKind() == Tree.Kind.STRING_LITERAL);
                t.due("rule 6: " + tree, fine && !makes(method) ? 1 : 0, 1);
                return super.visitThrow(tree, method);
            }

            @Override
            public Void visitVariable(VariableTree tree, Element method) {
                Set<Modifier> modifiers = tree.getModifiers().getFlags();
                if (modifiers.contains(Modifier.STATIC)) {
                    t.due("rule 5: " + tree, modifiers.contains(Modifier.FINAL)
                        && tree.getType().toString().equals("int") ? 1 : 0, 1);
                }
                return super.visitVariable(tree, method);
            }

            private void note(Element method) {
                Element called = trees.getElement(getCurrentPath());
                if (method != null && called != null) {
                    CALLS.get(method).add(called);
                }
            }
        }.scan(unit, null);
        t.due("classes", Math.max(classes[0], MOST_CLASSES), MOST_CLASSES);
    }

    /** How many methods of the file stand open at once, this one counted; there is no recursion. */
    private static int depth(Tester t, Element method, List<Element> open) {
        if (open.contains(method)) {
            t.due("recursion of " + method, 1, 0);
            return 0;
        }
        Integer known = DEPTHS.get(method);
        if (known != null) {
            return known;
        }
        open.add(method);
        int deepest = 0;
        for (Element called : CALLS.getOrDefault(method, Collections.emptySet())) {
            if (CALLS.containsKey(called)) {
                deepest = Math.max(deepest, depth(t, called, open));
            }
        }
        open.remove(method);
        DEPTHS.put(method, deepest + 1);
        return deepest + 1;
    }
}
