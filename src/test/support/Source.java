import com.sun.source.tree.ClassTree;
import com.sun.source.tree.CompilationUnitTree;
import com.sun.source.tree.MethodInvocationTree;
import com.sun.source.tree.MethodTree;
import com.sun.source.tree.NewClassTree;
import com.sun.source.tree.Tree;
import com.sun.source.util.JavacTask;
import com.sun.source.util.TreePath;
import com.sun.source.util.TreePathScanner;
import com.sun.source.util.Trees;
import java.io.IOException;
import java.util.ArrayDeque;
import java.util.ArrayList;
import java.util.Deque;
import java.util.HashMap;
import java.util.HashSet;
import java.util.LinkedHashMap;
import java.util.LinkedHashSet;
import java.util.List;
import java.util.Map;
import java.util.Set;
import javax.lang.model.element.Element;
import javax.lang.model.type.TypeMirror;
import javax.tools.JavaCompiler;
import javax.tools.StandardJavaFileManager;
import javax.tools.ToolProvider;

/** A Java file as the compiler sees it: its tree with the types in it, and which method calls which. */
final class Source {
    final CompilationUnitTree unit;
    private final Trees trees;
    private final Map<Element, Set<Element>> calls = new LinkedHashMap<>();
    private final Map<Element, List<String>> longest = new HashMap<>();

    Source(String path) throws IOException {
        JavaCompiler compiler = ToolProvider.getSystemJavaCompiler();
        StandardJavaFileManager files = compiler.getStandardFileManager(null, null, null);
        JavacTask task = (JavacTask) compiler.getTask(null, files, null, List.of("-proc:none"), null,
                files.getJavaFileObjects(path));
        unit = task.parse().iterator().next();
        task.analyze();
        trees = Trees.instance(task);
        findCalls();
    }

    Element elementOf(TreePath path) {
        return trees.getElement(path);
    }

    TypeMirror typeOf(TreePath path, Tree tree) {
        return trees.getTypeMirror(new TreePath(path, tree));
    }

    long lineOf(Tree tree) {
        return unit.getLineMap().getLineNumber(trees.getSourcePositions().getStartPosition(unit, tree));
    }

    long lastLineOf(Tree tree) {
        return unit.getLineMap().getLineNumber(trees.getSourcePositions().getEndPosition(unit, tree));
    }

    /** The method or constructor that a tree stands in; null outside of them. */
    static MethodTree methodAround(TreePath path) {
        for (TreePath p = path.getParentPath(); p != null && !(p.getLeaf() instanceof ClassTree); p = p.getParentPath()) {
            if (p.getLeaf() instanceof MethodTree method) {
                return method;
            }
        }
        return null;
    }

    private void findCalls() {
        new TreePathScanner<Void, Element>() {
            @Override
            public Void visitMethod(MethodTree method, Element around) {
                Element me = elementOf(getCurrentPath());
                calls.put(me, new LinkedHashSet<>());
                return super.visitMethod(method, me);
            }

            @Override
            public Void visitMethodInvocation(MethodInvocationTree call, Element around) {
                note(around);
                return super.visitMethodInvocation(call, around);
            }

            @Override
            public Void visitNewClass(NewClassTree made, Element around) {
                note(around);
                return super.visitNewClass(made, around);
            }

            private void note(Element around) {
                if (around != null) {
                    calls.get(around).add(elementOf(getCurrentPath()));
                }
            }
        }.scan(unit, null);
    }

    Set<Element> methods() {
        return calls.keySet();
    }

    /** The methods that a method comes to again, and that come to it. */
    Set<Element> recursionOf(Element method) {
        Set<Element> group = new LinkedHashSet<>();
        for (Element m : reachedFrom(method)) {
            if (reachedFrom(m).contains(method)) {
                group.add(m);
            }
        }
        return group;
    }

    private Set<Element> reachedFrom(Element method) {
        Set<Element> reached = new HashSet<>();
        Deque<Element> due = new ArrayDeque<>(List.of(method));
        while (!due.isEmpty()) {
            for (Element called : calls.getOrDefault(due.poll(), Set.of())) {
                if (calls.containsKey(called) && reached.add(called)) {
                    due.add(called);
                }
            }
        }
        return reached;
    }

    /** The longest row of calls that begins with a method; methods of one recursion count as one. */
    List<String> longestFrom(Element method) {
        List<String> known = longest.get(method);
        if (known != null) {
            return known;
        }
        Set<Element> group = recursionOf(method);
        group.add(method);
        List<String> further = new ArrayList<>();
        for (Element m : group) {
            for (Element called : calls.get(m)) {
                if (calls.containsKey(called) && !group.contains(called)) {
                    List<String> row = longestFrom(called);
                    further = row.size() > further.size() ? row : further;
                }
            }
        }
        List<String> row = new ArrayList<>();
        row.add(method.getEnclosingElement().getSimpleName() + "." + method.getSimpleName());
        row.addAll(further);
        longest.put(method, row);
        return row;
    }
}
