import com.sun.source.tree.ArrayAccessTree;
import com.sun.source.tree.AssertTree;
import com.sun.source.tree.AssignmentTree;
import com.sun.source.tree.BinaryTree;
import com.sun.source.tree.BindingPatternTree;
import com.sun.source.tree.BlockTree;
import com.sun.source.tree.ClassTree;
import com.sun.source.tree.CompoundAssignmentTree;
import com.sun.source.tree.DoWhileLoopTree;
import com.sun.source.tree.EnhancedForLoopTree;
import com.sun.source.tree.ExpressionTree;
import com.sun.source.tree.ForLoopTree;
import com.sun.source.tree.IdentifierTree;
import com.sun.source.tree.InstanceOfTree;
import com.sun.source.tree.LambdaExpressionTree;
import com.sun.source.tree.LiteralTree;
import com.sun.source.tree.MemberReferenceTree;
import com.sun.source.tree.MemberSelectTree;
import com.sun.source.tree.MethodInvocationTree;
import com.sun.source.tree.MethodTree;
import com.sun.source.tree.NewArrayTree;
import com.sun.source.tree.NewClassTree;
import com.sun.source.tree.ParenthesizedTree;
import com.sun.source.tree.SwitchTree;
import com.sun.source.tree.SynchronizedTree;
import com.sun.source.tree.ThrowTree;
import com.sun.source.tree.Tree;
import com.sun.source.tree.TryTree;
import com.sun.source.tree.TypeCastTree;
import com.sun.source.tree.UnaryTree;
import com.sun.source.tree.VariableTree;
import com.sun.source.tree.WhileLoopTree;
import com.sun.source.util.TreePath;
import java.nio.file.Path;
import java.util.List;
import java.util.Set;
import java.util.TreeSet;
import javax.lang.model.element.Element;
import javax.lang.model.element.ExecutableElement;
import javax.lang.model.element.Modifier;

/** HollowSteps.java against ../shared/LANGUAGE.md, rule by rule: what its text can tell. */
public final class RulesTest {
    private static final Due due = new Due("rules");
    private static final Set<String> NUMBERS = Set.of("int", "long", "short", "byte", "char", "boolean");
    private static final Set<String> LIBRARY = Set.of("java.lang.Math.max", "java.lang.Math.min", "java.lang.Math.abs",
            "java.lang.Integer.bitCount", "java.lang.System.arraycopy", "java.lang.Object.<init>");
    private static final List<Class<? extends Tree>> LOOPS = List.of(ForLoopTree.class, WhileLoopTree.class,
            DoWhileLoopTree.class, EnhancedForLoopTree.class);

    private final Source source;

    private RulesTest(Source source) {
        this.source = source;
    }

    public static void main(String[] args) throws Exception {
        RulesTest test = new RulesTest(new Source(Path.of("src/main/java/HollowSteps.java")));
        test.rule1();
        test.rule2();
        test.rule3();
        test.rule4();
        test.rule5();
        test.rule6();
        test.rule8();
        test.rule9();
        test.rule10();
        test.rule11();
        test.rule12();
        due.end();
    }

    // ---- what the rules share

    private void none(int rule, Class<? extends Tree> sort) {
        List<TreePath> found = source.all(sort);
        String where = found.isEmpty() ? "" : source.shown(found.get(0));
        due.holds("rule " + rule + ": no " + sort.getSimpleName() + " " + where, found.isEmpty());
    }

    private void each(int rule, String wanted, TreePath path, boolean so) {
        due.holds("rule " + rule + ": " + wanted + ": " + (so ? "" : source.shown(path)), so);
    }

    private static boolean isStatic(Element element) {
        return element != null && element.getModifiers().contains(Modifier.STATIC);
    }

    private static boolean isField(Element element) {
        return element != null && element.getKind().isField();
    }

    // ---- the rules

    private void rule1() {
        due.is("rule 1: no package line", source.unit.getPackageName() == null ? 0 : 1, 0);
        due.is("rule 1: one class", source.unit.getTypeDecls().size(), 1);
        Set<String> open = new TreeSet<>();
        for (Element method : source.methods()) {
            if (method.getModifiers().contains(Modifier.PUBLIC)) {
                open.add(method.getSimpleName().toString());
            }
        }
        for (TreePath path : source.all(MethodTree.class)) {
            Element method = source.elementOf(path);
            boolean isOpen = method.getModifiers().contains(Modifier.PUBLIC);
            each(1, "bears no public one's name", path, isOpen || Source.isConstructor((ExecutableElement) method) || !open.contains(method.getSimpleName().toString()));
            each(1, "public in HollowSteps alone", path, !isOpen || Source.nameOf(method).startsWith("HollowSteps.")
                    && Source.nameOf(method).lastIndexOf('.') == "HollowSteps".length());
        }
    }

    private void rule2() {
        none(2, LambdaExpressionTree.class);
        none(2, MemberReferenceTree.class);
        ClassTree face = (ClassTree) source.unit.getTypeDecls().get(0);
        for (TreePath path : source.all(ClassTree.class)) {
            ClassTree inside = (ClassTree) path.getLeaf();
            boolean nested = inside == face || Source.isInside(face, inside) && isStatic(source.elementOf(path));
            each(2, "a static class of the file's one", path, nested);
        }
        for (TreePath path : source.all(NewClassTree.class)) {
            each(2, "no class without a name", path, ((NewClassTree) path.getLeaf()).getClassBody() == null);
        }
    }

    private void rule3() {
        for (TreePath path : source.all(VariableTree.class)) {
            each(3, "an allowed type", path, isAllowed(source.typeOf(path, ((VariableTree) path.getLeaf()).getType())));
        }
        for (TreePath path : source.all(MethodTree.class)) {
            Tree answers = ((MethodTree) path.getLeaf()).getReturnType();
            String type = answers == null ? "void" : source.typeOf(path, answers);
            each(3, "an allowed answer", path, type.equals("void") || isAllowed(type));
        }
        for (TreePath path : source.all(LiteralTree.class)) {
            Object value = ((LiteralTree) path.getLeaf()).getValue();
            boolean small = !(value instanceof Character sign) || sign < 128;
            each(3, "no fraction, no sign above 127", path, small && !(value instanceof Double || value instanceof Float));
        }
        due.holds("rule 3: signs 1 to 127 alone", source.text.chars().allMatch(c -> c > 0 && c < 128));
    }

    private static boolean isAllowed(String type) {
        String of = type.endsWith("[]") ? type.substring(0, type.length() - 2) : type;
        return NUMBERS.contains(of) || of.startsWith("HollowSteps.") && !of.contains("[");
    }

    private void rule4() {
        due.is("rule 4: imports", source.unit.getImports().size(), 0);
        for (Class<? extends Tree> sort : List.of(MethodInvocationTree.class, NewClassTree.class)) {
            for (TreePath path : source.all(sort)) {
                Element called = source.elementOf(path);
                each(4, "in the library that may be used", path,
                        Source.isOwn(called) || LIBRARY.contains(Source.nameOf(called)));
            }
        }
    }

    private void rule5() {
        for (TreePath path : source.all(VariableTree.class)) {
            Element field = source.elementOf(path);
            if (isField(field) && isStatic(field)) {
                each(5, "a constant", path, field.getModifiers().contains(Modifier.FINAL));
                each(5, "written out", path, isWrittenOut(((VariableTree) path.getLeaf()).getInitializer()));
            }
        }
        for (TreePath path : source.all(BlockTree.class)) {
            each(5, "no block of its own in a class", path, !(path.getParentPath().getLeaf() instanceof ClassTree));
        }
        for (Class<? extends Tree> sort : List.of(IdentifierTree.class, MemberSelectTree.class)) {
            for (TreePath path : source.all(sort)) {
                Element named = source.elementOf(path);
                if (isField(named) && isStatic(named) && named.asType().toString().endsWith("[]")) {
                    each(5, "a constant array is read alone", path, isRead(path.getParentPath()));
                }
            }
        }
    }

    /** A row of numbers between braces, or what has no new row in it at all. */
    private static boolean isWrittenOut(ExpressionTree initializer) {
        if (initializer instanceof NewArrayTree row) {
            return row.getInitializers() != null && row.getInitializers().stream().allMatch(RulesTest::isNumber);
        }
        return initializer != null && !(initializer instanceof NewClassTree || initializer instanceof MethodInvocationTree);
    }

    private static boolean isNumber(Tree part) {
        return part instanceof LiteralTree || part instanceof UnaryTree minus && minus.getExpression() instanceof LiteralTree;
    }

    private static boolean isRead(TreePath use) {
        if (use.getLeaf() instanceof MemberSelectTree select) {
            return select.getIdentifier().contentEquals("length");
        }
        Tree user = use.getParentPath().getLeaf();
        boolean changed = user instanceof AssignmentTree told && told.getVariable() == use.getLeaf()
                || user instanceof CompoundAssignmentTree added && added.getVariable() == use.getLeaf()
                || user instanceof UnaryTree counted && !(counted.getKind() == Tree.Kind.UNARY_MINUS);
        return use.getLeaf() instanceof ArrayAccessTree && !changed;
    }

    private void rule6() {
        for (Class<? extends Tree> sort : List.of(ThrowTree.class, TryTree.class, SynchronizedTree.class, AssertTree.class,
                BindingPatternTree.class, InstanceOfTree.class)) {
            none(6, sort);
        }
        for (TreePath path : source.all(TypeCastTree.class)) {
            each(6, "casts among numbers alone", path, NUMBERS.contains("" + ((TypeCastTree) path.getLeaf()).getType()));
        }
        for (Element method : source.methods()) {
            String name = method.getSimpleName().toString();
            due.holds("rule 6: no " + name + " of its own", !Set.of("equals", "hashCode", "toString").contains(name));
        }
    }

    private void rule8() {
        Set<String> recursions = new TreeSet<>();
        for (TreePath path : source.all(MethodTree.class)) {
            Element method = source.elementOf(path);
            if (source.isRecursion(method)) {
                recursions.add(Source.nameOf(method));
                each(8, "a recursion is private", path, method.getModifiers().contains(Modifier.PRIVATE));
                boolean carried = ((ExecutableElement) method).getParameters().stream()
                        .anyMatch(p -> p.getSimpleName().contentEquals("open"));
                each(8, "a recursion carries how deep it is", path, carried);
            }
        }
        due.holds("rule 8: recursions in the Reader and the Wears alone: " + recursions, !recursions.isEmpty() && recursions
                .stream().allMatch(n -> n.startsWith("HollowSteps.Reader.read") || n.startsWith("HollowSteps.Wears.")));
    }

    private void rule9() {
        none(9, DoWhileLoopTree.class);
        for (TreePath path : source.all(ForLoopTree.class)) {
            ForLoopTree loop = (ForLoopTree) path.getLeaf();
            each(9, "a bound", path, hasBound(loop.getCondition()) && loop.getUpdate().size() == 1);
        }
        for (TreePath path : source.all(WhileLoopTree.class)) {
            each(9, "a bound", path, hasBound(((WhileLoopTree) path.getLeaf()).getCondition()));
        }
    }

    /** One of the conditions that must all hold compares with a bound. */
    private static boolean hasBound(ExpressionTree condition) {
        if (condition instanceof ParenthesizedTree inner) {
            return hasBound(inner.getExpression());
        }
        if (!(condition instanceof BinaryTree both)) {
            return false;
        }
        if (both.getKind() == Tree.Kind.CONDITIONAL_AND) {
            return hasBound(both.getLeftOperand()) || hasBound(both.getRightOperand());
        }
        return both.getKind() == Tree.Kind.LESS_THAN || both.getKind() == Tree.Kind.LESS_THAN_EQUAL;
    }

    private void rule10() {
        for (TreePath path : source.all(SwitchTree.class)) {
            each(10, "a switch on an int", path, source.typeOf(path, ((SwitchTree) path.getLeaf()).getExpression()).equals("int"));
        }
        for (TreePath path : source.all(LiteralTree.class)) {
            each(10, "no text to be joined", path, !(((LiteralTree) path.getLeaf()).getValue() instanceof String));
        }
    }

    private void rule11() {
        for (TreePath path : source.all(MethodTree.class)) {
            MethodTree method = (MethodTree) path.getLeaf();
            each(11, "seven parameters at most", path, method.getParameters().size() <= 7);
            each(11, "some sixty lines at most", path, source.linesOf(method) <= 60);
            int deep = source.depth(source.elementOf(path));
            each(11, "calls go eight deep at most, here " + deep, path, deep <= 8);
        }
        List<TreePath> classes = source.all(ClassTree.class);
        due.holds("rule 11: some twelve classes", classes.size() <= 12);
        for (TreePath path : classes) {
            long fields = source.elementOf(path).getEnclosedElements().stream().filter(e -> isField(e) && !isStatic(e)).count();
            each(11, "some twenty fields", path, fields <= 20);
        }
    }

    private void rule12() {
        for (Class<? extends Tree> sort : List.of(NewClassTree.class, NewArrayTree.class)) {
            for (TreePath path : source.all(sort)) {
                MethodTree in = Source.around(path, MethodTree.class);
                String name = in == null ? "" : in.getName().toString();
                boolean looped = LOOPS.stream().anyMatch(loop -> Source.around(path, loop) != null);
                each(12, "none is made in a loop", path, !looped || name.equals("<init>"));
                each(12, "made by few", path, Set.of("", "<init>", "step", "story", "read").contains(name));
            }
        }
        for (TreePath path : source.all(MethodInvocationTree.class)) {
            MethodTree in = Source.around(path, MethodTree.class);
            boolean making = in != null && in.getName().contentEquals("<init>");
            each(12, "a constructor calls none of its own", path, !making || !Source.isOwn(source.elementOf(path)));
        }
    }
}
