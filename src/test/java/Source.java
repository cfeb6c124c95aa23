import com.sun.source.tree.CompilationUnitTree;
import com.sun.source.tree.MethodInvocationTree;
import com.sun.source.tree.MethodTree;
import com.sun.source.tree.Tree;
import com.sun.source.util.JavacTask;
import com.sun.source.util.SourcePositions;
import com.sun.source.util.TreePath;
import com.sun.source.util.TreePathScanner;
import com.sun.source.util.Trees;
import java.io.IOException;
import java.nio.file.Path;
import java.util.ArrayList;
import java.util.LinkedHashMap;
import java.util.LinkedHashSet;
import java.util.List;
import java.util.Map;
import java.util.Set;
import javax.lang.model.element.Element;
import javax.lang.model.element.Modifier;
import javax.tools.JavaCompiler;
import javax.tools.StandardJavaFileManager;
import javax.tools.ToolProvider;

/** A file as javac itself reads it: its tree, what its names mean, and which of its methods calls which. */
final class Source {
    final CompilationUnitTree unit;
    final Trees trees;
    private final Map<Element, Set<Element>> calls = new LinkedHashMap<>();

    private Source(CompilationUnitTree unit, Trees trees) {
        this.unit = unit;
        this.trees = trees;
        collectCalls();
    }

    static Source read(Path place) throws IOException {
        JavaCompiler compiler = ToolProvider.getSystemJavaCompiler();
        try (StandardJavaFileManager files = compiler.getStandardFileManager(null, null, null)) {
            JavacTask task = (JavacTask) compiler.getTask(null, files, null, List.of("-proc:none"), null,
                files.getJavaFileObjects(place));
            CompilationUnitTree unit = task.parse().iterator().next();
            task.analyze();
            return new Source(unit, Trees.instance(task));
        }
    }

    Element meaning(TreePath path) {
        return trees.getElement(path);
    }

    /** The type of an expression, as it would be written. */
    String type(TreePath path) {
        return String.valueOf(trees.getTypeMirror(path));
    }

    long line(Tree tree) {
        return unit.getLineMap().getLineNumber(trees.getSourcePositions().getStartPosition(unit, tree));
    }

    long lines(Tree tree) {
        SourcePositions places = trees.getSourcePositions();
        return unit.getLineMap().getLineNumber(places.getEndPosition(unit, tree)) - line(tree) + 1;
    }

    Set<Element> methods() {
        return calls.keySet();
    }

    private void collectCalls() {
        new TreePathScanner<Void, Element>() {
            @Override
            public Void visitMethod(MethodTree tree, Element around) {
                Element method = meaning(getCurrentPath());
                calls.put(method, new LinkedHashSet<>());
                return super.visitMethod(tree, method);
            }

            @Override
            public Void visitMethodInvocation(MethodInvocationTree tree, Element around) {
                if (around != null) {
                    calls.get(around).add(meaning(getCurrentPath()));
                }
                return super.visitMethodInvocation(tree, around);
            }
        }.scan(unit, null);
    }

    /** The methods of this file that a method calls; for an abstract one, those that stand in for it. */
    private List<Element> calledBy(Element method) {
        List<Element> found = new ArrayList<>();
        for (Element called : calls.get(method)) {
            for (Element other : calls.keySet()) {
                boolean standsIn = called.getModifiers().contains(Modifier.ABSTRACT)
                    && other.getSimpleName().equals(called.getSimpleName());
                if (other.equals(called) || standsIn) {
                    found.add(other);
                }
            }
        }
        return found;
    }

    /** The longest chain of calls from a method on in which none stands twice. */
    List<Element> longestChain(Element method) {
        return longestChain(method, new ArrayList<>());
    }

    private List<Element> longestChain(Element method, List<Element> ahead) {
        ahead.add(method);
        List<Element> longest = new ArrayList<>(ahead);
        for (Element called : calledBy(method)) {
            if (!ahead.contains(called)) {
                List<Element> chain = longestChain(called, ahead);
                longest = chain.size() > longest.size() ? chain : longest;
            }
        }
        ahead.remove(ahead.size() - 1);
        return longest;
    }

    /** Whether a method can come to be called again while it stands open. */
    boolean isRecursive(Element method) {
        Set<Element> seen = new LinkedHashSet<>(calledBy(method));
        List<Element> open = new ArrayList<>(seen);
        for (int i = 0; i < open.size(); i++) {
            for (Element called : calledBy(open.get(i))) {
                if (seen.add(called)) {
                    open.add(called);
                }
            }
        }
        return seen.contains(method);
    }
}
