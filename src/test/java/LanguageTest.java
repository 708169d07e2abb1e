import com.sun.source.tree.AssignmentTree;
import com.sun.source.tree.BinaryTree;
import com.sun.source.tree.ClassTree;
import com.sun.source.tree.CompilationUnitTree;
import com.sun.source.tree.CompoundAssignmentTree;
import com.sun.source.tree.ExpressionTree;
import com.sun.source.tree.ForLoopTree;
import com.sun.source.tree.IdentifierTree;
import com.sun.source.tree.LiteralTree;
import com.sun.source.tree.MemberSelectTree;
import com.sun.source.tree.MethodInvocationTree;
import com.sun.source.tree.MethodTree;
import com.sun.source.tree.NewArrayTree;
import com.sun.source.tree.NewClassTree;
import com.sun.source.tree.ParenthesizedTree;
import com.sun.source.tree.Tree;
import com.sun.source.tree.TypeCastTree;
import com.sun.source.tree.VariableTree;
import com.sun.source.util.JavacTask;
import com.sun.source.util.TreePath;
import com.sun.source.util.TreePathScanner;
import com.sun.source.util.Trees;
import java.nio.file.Path;
import java.util.Arrays;
import java.util.HashMap;
import java.util.HashSet;
import java.util.LinkedHashSet;
import java.util.List;
import java.util.Map;
import java.util.Set;
import javax.lang.model.element.Element;
import javax.lang.model.element.ElementKind;
import javax.lang.model.element.Modifier;
import javax.lang.model.element.TypeElement;
import javax.lang.model.element.VariableElement;
import javax.lang.model.type.ArrayType;
import javax.lang.model.type.TypeKind;
import javax.lang.model.type.TypeMirror;
import javax.tools.JavaCompiler;
import javax.tools.StandardJavaFileManager;
import javax.tools.ToolProvider;

/** The rules of LANGUAGE.md that need the compiler's own reading of the class. */
public final class LanguageTest extends TreePathScanner<Void, Void> {
    private static final int DEEPEST = 8;
    private static final Set<String> LIBRARY = Set.of("java.lang.String.length", "java.lang.String.charAt",
        "java.lang.String.isEmpty", "java.lang.String.indexOf", "java.lang.Math.max", "java.lang.Math.min",
        "java.lang.Math.abs", "java.lang.Math.floorDiv", "java.lang.Math.floorMod", "java.lang.Integer.bitCount",
        "java.lang.Integer.compare", "java.lang.Long.compare", "java.lang.Long.bitCount", "java.lang.System.arraycopy",
        "java.util.Arrays.copyOf", "java.util.Arrays.copyOfRange", "java.util.Arrays.fill", "java.lang.Object.<init>");
    private static final Set<Tree.Kind> RULED_OUT = Set.of(Tree.Kind.THROW, Tree.Kind.TRY, Tree.Kind.CATCH,
        Tree.Kind.SYNCHRONIZED, Tree.Kind.ASSERT, Tree.Kind.LAMBDA_EXPRESSION, Tree.Kind.MEMBER_REFERENCE,
        Tree.Kind.ANNOTATION, Tree.Kind.UNION_TYPE);
    private static final Set<TypeKind> CONSTANT_ROWS =
        Set.of(TypeKind.INT, TypeKind.LONG, TypeKind.CHAR, TypeKind.BYTE);
    private static final Set<TypeKind> CONSTANTS =
        Set.of(TypeKind.INT, TypeKind.LONG, TypeKind.BOOLEAN, TypeKind.CHAR);

    private final Checks checks = new Checks();
    private final Trees trees;
    /** What each method calls: of the class itself, and of the library. */
    private final Map<Element, Set<Element>> calls = new HashMap<>();
    private int divisions;
    private int loops;

    private LanguageTest(Trees trees) {
        this.trees = trees;
    }

    public static void main(String[] args) throws Exception {
        JavaCompiler compiler = ToolProvider.getSystemJavaCompiler();
        try (StandardJavaFileManager files = compiler.getStandardFileManager(null, null, null)) {
            JavacTask task = (JavacTask) compiler.getTask(null, files, null, List.of("-proc:none", "-encoding", "UTF-8"),
                null, files.getJavaFileObjects(Path.of("src/main/java/Samovar.java")));
            Iterable<? extends CompilationUnitTree> units = task.parse();
            task.analyze();
            LanguageTest test = new LanguageTest(Trees.instance(task));
            for (CompilationUnitTree unit : units) {
                test.scan(new TreePath(unit), null);
            }
            test.depth();
            test.checks.due("the class was not read", test.divisions > 0 && test.loops > 0 && test.calls.size() > 50);
            test.checks.end();
        }
    }

    private void due(int rule, String what, boolean holds) {
        checks.due("rule " + rule + ": " + what, holds);
    }

    private Element elementHere() {
        return trees.getElement(getCurrentPath());
    }

    private Element elementOf(Tree tree) {
        return trees.getElement(new TreePath(getCurrentPath(), tree));
    }

    private TypeMirror typeOf(Tree tree) {
        return trees.getTypeMirror(new TreePath(getCurrentPath(), tree));
    }

    /** The method that a tree stands in; null for a field's initialiser. */
    private MethodTree around() {
        for (TreePath path = getCurrentPath(); path != null; path = path.getParentPath()) {
            if (path.getLeaf() instanceof MethodTree method) {
                return method;
            }
        }
        return null;
    }

    private static boolean own(Element element) {
        Element at = element;
        while (at != null && !(at instanceof TypeElement && at.getEnclosingElement().getKind() == ElementKind.PACKAGE)) {
            at = at.getEnclosingElement();
        }
        return at != null && at.toString().equals("Samovar");
    }

    @Override
    public Void scan(Tree tree, Void nothing) {
        if (tree != null) {
            due(6, "the class has " + tree.getKind() + ": " + tree, !RULED_OUT.contains(tree.getKind()));
        }
        return super.scan(tree, nothing);
    }

    @Override
    public Void visitClass(ClassTree tree, Void nothing) {
        Tree parent = getCurrentPath().getParentPath().getLeaf();
        boolean nested = parent instanceof ClassTree;
        due(2, tree.getSimpleName() + " stands in a method", nested || parent instanceof CompilationUnitTree);
        Set<Modifier> modifiers = tree.getModifiers().getFlags();
        due(1, tree.getSimpleName() + " is not static, or is shown", !nested
            || modifiers.contains(Modifier.STATIC) && !modifiers.contains(Modifier.PUBLIC)
            && !modifiers.contains(Modifier.PROTECTED));
        for (Tree member : tree.getMembers()) {
            due(5, tree.getSimpleName() + " has an initialiser block", member.getKind() != Tree.Kind.BLOCK);
        }
        return super.visitClass(tree, nothing);
    }

    @Override
    public Void visitMethod(MethodTree tree, Void nothing) {
        due(11, tree.getName() + " takes more than seven", tree.getParameters().size() <= 7);
        calls.putIfAbsent(elementHere(), new LinkedHashSet<>());
        return super.visitMethod(tree, nothing);
    }

    @Override
    public Void visitVariable(VariableTree tree, Void nothing) {
        TypeMirror type = elementHere().asType();
        due(3, tree + " is of another type", mayBe(type));
        boolean field = elementHere().getKind() == ElementKind.FIELD;
        if (field && elementHere().getModifiers().contains(Modifier.STATIC)) {
            due(5, tree + " is not final", elementHere().getModifiers().contains(Modifier.FINAL));
            boolean row = type instanceof ArrayType array && CONSTANT_ROWS.contains(array.getComponentType().getKind())
                && tree.getInitializer() instanceof NewArrayTree written && written.getInitializers() != null;
            due(5, tree + " is no constant", row || CONSTANTS.contains(type.getKind())
                || type.toString().equals("java.lang.String"));
        }
        return super.visitVariable(tree, nothing);
    }

    private static boolean mayBe(TypeMirror type) {
        if (type instanceof ArrayType row) {
            TypeMirror item = row.getComponentType();
            boolean numbers = item instanceof ArrayType inner && inner.getComponentType().getKind().isPrimitive();
            return numbers || item.getKind().isPrimitive() || item.toString().startsWith("Samovar.");
        }
        return type.getKind().isPrimitive() || type.toString().startsWith("Samovar.")
            || Set.of("java.lang.String", "java.lang.StringBuilder").contains(type.toString());
    }

    @Override
    public Void visitMethodInvocation(MethodInvocationTree tree, Void nothing) {
        called(elementHere(), tree);
        return super.visitMethodInvocation(tree, nothing);
    }

    private void called(Element target, Tree tree) {
        String name = target.getEnclosingElement() + "." + target.getSimpleName();
        due(4, tree + " calls " + name, own(target) || LIBRARY.contains(name));
        if (name.equals("java.lang.String.indexOf")) {
            TypeMirror argument = typeOf(((MethodInvocationTree) tree).getArguments().get(0));
            due(4, tree + " looks for no char", argument.getKind() == TypeKind.CHAR);
        }
        MethodTree caller = around();
        if (caller != null) {
            Element from = trees.getElement(pathOf(caller));
            calls.computeIfAbsent(from, none -> new LinkedHashSet<>()).add(target);
        }
    }

    private TreePath pathOf(MethodTree method) {
        TreePath path = getCurrentPath();
        while (path.getLeaf() != method) {
            path = path.getParentPath();
        }
        return path;
    }

    @Override
    public Void visitNewClass(NewClassTree tree, Void nothing) {
        due(2, tree + " makes an anonymous class", tree.getClassBody() == null);
        due(4, tree + " makes what is not of the class", own(elementHere()));
        madeOnceOnly(tree);
        return super.visitNewClass(tree, nothing);
    }

    @Override
    public Void visitNewArray(NewArrayTree tree, Void nothing) {
        madeOnceOnly(tree);
        for (ExpressionTree length : tree.getDimensions()) {
            due(7, tree + " has no constant length", constant(length) instanceof Integer n && n >= 0);
        }
        return super.visitNewArray(tree, nothing);
    }

    /** Stricter than rule 12, so that a run of any calls stays in its room. */
    private void madeOnceOnly(Tree tree) {
        MethodTree method = around();
        due(12, tree + " is made in a call", method == null || method.getReturnType() == null);
    }

    @Override
    public Void visitTypeCast(TypeCastTree tree, Void nothing) {
        due(6, tree + " casts an object", typeOf(tree.getType()).getKind().isPrimitive());
        return super.visitTypeCast(tree, nothing);
    }

    @Override
    public Void visitForLoop(ForLoopTree tree, Void nothing) {
        loops++;
        due(9, tree + " has no end, or no step", tree.getCondition() != null && !tree.getUpdate().isEmpty());
        return super.visitForLoop(tree, nothing);
    }

    @Override
    public Void visitBinary(BinaryTree tree, Void nothing) {
        if (tree.getKind() == Tree.Kind.DIVIDE || tree.getKind() == Tree.Kind.REMAINDER) {
            divides(tree, tree.getRightOperand());
        }
        boolean text = typeOf(tree.getLeftOperand()).toString().equals("java.lang.String")
            || typeOf(tree.getRightOperand()).toString().equals("java.lang.String");
        due(10, tree + " joins or compares texts", !text);
        return super.visitBinary(tree, nothing);
    }

    @Override
    public Void visitCompoundAssignment(CompoundAssignmentTree tree, Void nothing) {
        if (tree.getKind() == Tree.Kind.DIVIDE_ASSIGNMENT || tree.getKind() == Tree.Kind.REMAINDER_ASSIGNMENT) {
            divides(tree, tree.getExpression());
        }
        notOfAConstantRow(tree, tree.getVariable());
        return super.visitCompoundAssignment(tree, nothing);
    }

    @Override
    public Void visitAssignment(AssignmentTree tree, Void nothing) {
        notOfAConstantRow(tree, tree.getVariable());
        return super.visitAssignment(tree, nothing);
    }

    private void notOfAConstantRow(Tree tree, ExpressionTree changed) {
        String name = changed.toString().replaceAll("\\[.*", "").replaceAll(".*\\.", "");
        due(5, tree + " changes a constant", !name.matches("[A-Z_]+"));
    }

    private void divides(Tree tree, ExpressionTree divisor) {
        divisions++;
        Object value = constant(divisor);
        due(7, tree + " has a divisor that may be 0", value instanceof Integer n && n != 0);
    }

    private Object constant(ExpressionTree tree) {
        if (tree instanceof LiteralTree literal) {
            return literal.getValue();
        }
        if (tree instanceof ParenthesizedTree inside) {
            return constant(inside.getExpression());
        }
        if (tree instanceof IdentifierTree || tree instanceof MemberSelectTree) {
            return elementOf(tree) instanceof VariableElement variable ? variable.getConstantValue() : null;
        }
        if (tree.getKind() == Tree.Kind.MULTIPLY && tree instanceof BinaryTree product
                && constant(product.getLeftOperand()) instanceof Integer a
                && constant(product.getRightOperand()) instanceof Integer b) {
            return a * b;
        }
        return null;
    }

    private void depth() {
        for (Element method : Arrays.asList(calls.keySet().toArray(new Element[0]))) {
            int deep = depthOf(method, new HashSet<>());
            due(11, method.getEnclosingElement() + "." + method + " goes " + deep + " deep", deep <= DEEPEST);
        }
    }

    /** The library's methods count as one call each. */
    private int depthOf(Element method, Set<Element> open) {
        due(8, method + " calls itself", open.add(method));
        int deepest = 0;
        for (Element target : calls.getOrDefault(method, Set.of())) {
            if (!open.contains(target)) {
                deepest = Math.max(deepest, depthOf(target, open));
            } else {
                due(8, method + " and " + target + " call one another", false);
            }
        }
        open.remove(method);
        return 1 + deepest;
    }
}
