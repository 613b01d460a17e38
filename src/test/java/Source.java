import com.sun.source.tree.ClassTree;
import com.sun.source.tree.CompilationUnitTree;
import com.sun.source.tree.MethodInvocationTree;
import com.sun.source.tree.MethodTree;
import com.sun.source.tree.NewClassTree;
import com.sun.source.tree.Tree;
import com.sun.source.util.JavacTask;
import com.sun.source.util.TreePath;
import com.sun.source.util.TreePathScanner;
import com.sun.source.util.Trees;
import java.io.IOException;
import java.nio.file.Files;
import java.nio.file.Path;
import java.util.ArrayList;
import java.util.HashSet;
import java.util.LinkedHashMap;
import java.util.List;
import java.util.Map;
import java.util.Set;
import javax.lang.model.element.Element;
import javax.lang.model.element.ExecutableElement;
import javax.lang.model.element.TypeElement;
import javax.tools.JavaCompiler;
import javax.tools.ToolProvider;

/** A file of the program as the compiler reads it: all its parts, and which method calls which. */
final class Source {
    final String text;
    final CompilationUnitTree unit;
    private final Trees trees;
    private final List<TreePath> parts = new ArrayList<>();
    private final Map<Element, Set<Element>> calls = new LinkedHashMap<>();

    Source(Path file) throws IOException {
        text = Files.readString(file);
        JavaCompiler compiler = ToolProvider.getSystemJavaCompiler();
        var files = compiler.getStandardFileManager(null, null, null).getJavaFileObjects(file);
        JavacTask task = (JavacTask) compiler.getTask(null, null, null, List.of("--release", "17"), null, files);
        unit = task.parse().iterator().next();
        task.analyze();
        trees = Trees.instance(task);
        new TreePathScanner<Void, Void>() {
            @Override
            public Void scan(Tree part, Void none) {
                if (part != null) {
                    parts.add(new TreePath(getCurrentPath(), part));
                }
                return super.scan(part, none);
            }
        }.scan(new TreePath(unit), null);
        findCalls();
    }

    /** All parts of a sort, such as ForLoopTree, each with the way that leads to it. */
    List<TreePath> all(Class<? extends Tree> sort) {
        return parts.stream().filter(path -> sort.isInstance(path.getLeaf())).toList();
    }

    Element elementOf(TreePath path) {
        return trees.getElement(path);
    }

    String typeOf(TreePath path, Tree part) {
        return trees.getTypeMirror(new TreePath(path, part)).toString();
    }

    static boolean isOwn(Element element) {
        Element at = element;
        while (at != null && !(at instanceof TypeElement type && type.getQualifiedName().contentEquals("HollowSteps"))) {
            at = at.getEnclosingElement();
        }
        return at != null;
    }

    /** The part that holds this one and is of a sort; null: none does. */
    static <T extends Tree> T around(TreePath path, Class<T> sort) {
        for (TreePath at = path.getParentPath(); at != null; at = at.getParentPath()) {
            if (sort.isInstance(at.getLeaf())) {
                return sort.cast(at.getLeaf());
            }
        }
        return null;
    }

    /** Where a part stands and how it begins, for what is printed. */
    String shown(TreePath path) {
        String said = path.getLeaf().toString().trim();
        return "line " + lineAt(trees.getSourcePositions().getStartPosition(unit, path.getLeaf())) + ", "
                + said.substring(0, Math.min(60, (said + "\n").indexOf('\n')));
    }

    long linesOf(Tree part) {
        return lineAt(trees.getSourcePositions().getEndPosition(unit, part))
                - lineAt(trees.getSourcePositions().getStartPosition(unit, part)) + 1;
    }

    private long lineAt(long place) {
        return place < 0 ? 0 : unit.getLineMap().getLineNumber(place);
    }

    // ---- which method calls which

    private void findCalls() {
        for (TreePath path : all(MethodTree.class)) {
            calls.put(elementOf(path), new HashSet<>());
        }
        for (TreePath path : parts) {
            boolean calling = path.getLeaf() instanceof MethodInvocationTree || path.getLeaf() instanceof NewClassTree;
            MethodTree caller = around(path, MethodTree.class);
            if (calling && caller != null) {
                calls.get(trees.getElement(trees.getPath(unit, caller))).add(elementOf(path));
            }
        }
    }

    Set<Element> methods() {
        return calls.keySet();
    }

    /** All that a method leads to, by way of others too; itself, if it is a recursion. */
    Set<Element> reached(Element method) {
        Set<Element> found = new HashSet<>();
        List<Element> open = new ArrayList<>(calls.getOrDefault(method, Set.of()));
        while (!open.isEmpty()) {
            Element next = open.remove(open.size() - 1);
            if (found.add(next)) {
                open.addAll(calls.getOrDefault(next, Set.of()));
            }
        }
        return found;
    }

    boolean isRecursion(Element method) {
        return reached(method).contains(method);
    }

    /** How many calls stand open at once from a method on, a recursion counted as one. */
    int depth(Element method) {
        int deepest = 0;
        Set<Element> back = isRecursion(method) ? reached(method) : Set.of();
        for (Element called : back.isEmpty() ? calls.getOrDefault(method, Set.of()) : back) {
            boolean inside = back.contains(called) && reached(called).contains(method);
            if (!inside && isOwn(called)) {
                deepest = Math.max(deepest, depth(called));
            }
        }
        return deepest + 1;
    }

    static String nameOf(Element method) {
        Element owner = method.getEnclosingElement();
        String of = owner instanceof TypeElement type ? type.getQualifiedName().toString() : "" + owner;
        return of + "." + method.getSimpleName();
    }

    static boolean isConstructor(ExecutableElement method) {
        return method.getSimpleName().contentEquals("<init>");
    }

    static boolean isInside(ClassTree outer, ClassTree inner) {
        return outer.getMembers().contains(inner);
    }
}
