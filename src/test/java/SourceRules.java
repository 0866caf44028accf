import com.sun.source.tree.ArrayAccessTree;
import com.sun.source.tree.AssertTree;
import com.sun.source.tree.AssignmentTree;
import com.sun.source.tree.BinaryTree;
import com.sun.source.tree.ClassTree;
import com.sun.source.tree.CompilationUnitTree;
import com.sun.source.tree.CompoundAssignmentTree;
import com.sun.source.tree.DoWhileLoopTree;
import com.sun.source.tree.EnhancedForLoopTree;
import com.sun.source.tree.ExpressionTree;
import com.sun.source.tree.ForLoopTree;
import com.sun.source.tree.InstanceOfTree;
import com.sun.source.tree.LambdaExpressionTree;
import com.sun.source.tree.LiteralTree;
import com.sun.source.tree.MemberReferenceTree;
import com.sun.source.tree.MethodInvocationTree;
import com.sun.source.tree.MethodTree;
import com.sun.source.tree.NewArrayTree;
import com.sun.source.tree.NewClassTree;
import com.sun.source.tree.SwitchExpressionTree;
import com.sun.source.tree.SynchronizedTree;
import com.sun.source.tree.ThrowTree;
import com.sun.source.tree.Tree;
import com.sun.source.tree.TryTree;
import com.sun.source.tree.TypeCastTree;
import com.sun.source.tree.UnaryTree;
import com.sun.source.tree.VariableTree;
import com.sun.source.tree.WhileLoopTree;
import com.sun.source.util.JavacTask;
import com.sun.source.util.TreePath;
import com.sun.source.util.TreePathScanner;
import com.sun.source.util.Trees;
import java.nio.file.Path;
import java.util.HashMap;
import java.util.HashSet;
import java.util.List;
import java.util.Map;
import java.util.Set;
import java.util.TreeSet;
import javax.lang.model.element.Element;
import javax.lang.model.element.ElementKind;
import javax.lang.model.element.ExecutableElement;
import javax.lang.model.element.Modifier;
import javax.lang.model.element.TypeElement;
import javax.lang.model.type.ArrayType;
import javax.lang.model.type.DeclaredType;
import javax.lang.model.type.TypeKind;
import javax.lang.model.type.TypeMirror;
import javax.tools.JavaCompiler;
import javax.tools.StandardJavaFileManager;
import javax.tools.ToolProvider;

/**
 * The rules of LANGUAGE.md, looked up in the source as the compiler reads it. Where this program does with less
 * than a rule leaves (no exceptions, no recursion, nothing made by a call), the less is asked for.
 */
final class SourceRules extends TreePathScanner<Void, Void> {
    private static final Set<String> LIBRARY = Set.of("System.arraycopy", "Math.max", "Math.min", "Math.abs",
            "Object.Object");
    private static final int MOST_PARAMETERS = 7;
    private static final int MOST_LINES = 60;
    private static final int MOST_CLASSES = 12;
    private static final int MOST_FIELDS = 20;
    private static final int MOST_DEPTH = 8;

    private final Trees trees;
    private final CompilationUnitTree unit;
    private final Map<Element, Set<Element>> calls = new HashMap<>();
    private final Map<Element, Integer> depths = new HashMap<>();
    private int classes;

    private SourceRules(Trees trees, CompilationUnitTree unit) {
        this.trees = trees;
        this.unit = unit;
    }

    static void look(Path source) throws Exception {
        JavaCompiler compiler = ToolProvider.getSystemJavaCompiler();
        try (StandardJavaFileManager files = compiler.getStandardFileManager(null, null, null)) {
            JavacTask task = (JavacTask) compiler.getTask(null, files, null, List.of("-proc:none"), null,
                    files.getJavaFileObjects(source));
            CompilationUnitTree unit = task.parse().iterator().next();
            task.analyze();
            SourceRules rules = new SourceRules(Trees.instance(task), unit);
            Due.part("rule 1");
            Due.holds("no package line", unit.getPackageName() == null);
            Due.is("classes beside one another", unit.getTypeDecls().size(), 1);
            Due.part("rule 4");
            Due.holds("no import", unit.getImports().isEmpty());
            rules.scan(unit, null);
            rules.classesAndCalls();
        }
    }

    private void rule(int rule, Tree where, String what, boolean kept) {
        long line = unit.getLineMap().getLineNumber(trees.getSourcePositions().getStartPosition(unit, where));
        Due.part("rule " + rule + ", line " + line);
        Due.holds(what, kept);
    }

    private Element element(Tree tree) {
        return trees.getElement(new TreePath(getCurrentPath(), tree));
    }

    private TypeMirror type(Tree tree) {
        return trees.getTypeMirror(new TreePath(getCurrentPath(), tree));
    }

    private static boolean isOwn(Element element) {
        Element outer = element;
        while (outer.getEnclosingElement() != null && outer.getEnclosingElement().getKind() != ElementKind.PACKAGE) {
            outer = outer.getEnclosingElement();
        }
        return outer.getSimpleName().contentEquals("StoryWall");
    }

    /** Primitive types, own classes, String, and rows of these; rows of rows of numbers alone. */
    private static boolean isLeft(TypeMirror type, int dimensions) {
        if (type.getKind() == TypeKind.ARRAY) {
            return dimensions < 2 && isLeft(((ArrayType) type).getComponentType(), dimensions + 1);
        }
        if (type.getKind() == TypeKind.DECLARED) {
            Element element = ((DeclaredType) type).asElement();
            return dimensions < 2 && (isOwn(element) || element.toString().equals("java.lang.String"));
        }
        return type.getKind().isPrimitive() || type.getKind() == TypeKind.VOID;
    }

    private static boolean isFloating(TypeMirror type) {
        return type.getKind() == TypeKind.FLOAT || type.getKind() == TypeKind.DOUBLE;
    }

    @Override
    public Void visitClass(ClassTree tree, Void nothing) {
        classes++;
        rule(2, tree, "a named class", !tree.getSimpleName().toString().isEmpty());
        rule(2, tree, "extends and implements nothing", tree.getExtendsClause() == null
                && tree.getImplementsClause().isEmpty());
        rule(1, tree, "final", tree.getModifiers().getFlags().contains(Modifier.FINAL));
        boolean outer = getCurrentPath().getParentPath().getLeaf() == unit;
        rule(1, tree, "private and static inside", outer
                || tree.getModifiers().getFlags().containsAll(Set.of(Modifier.PRIVATE, Modifier.STATIC)));
        int fields = 0;
        for (Tree member : tree.getMembers()) {
            rule(5, member, "no initialiser block", member.getKind() != Tree.Kind.BLOCK);
            if (member instanceof VariableTree
                    && !((VariableTree) member).getModifiers().getFlags().contains(Modifier.STATIC)) {
                fields++;
            }
        }
        rule(11, tree, "some twenty fields, not " + fields, fields <= MOST_FIELDS);
        return super.visitClass(tree, nothing);
    }

    @Override
    public Void visitMethod(MethodTree tree, Void nothing) {
        Element method = trees.getElement(getCurrentPath());
        calls.computeIfAbsent(method, m -> new HashSet<>());
        rule(11, tree, "at most seven parameters", tree.getParameters().size() <= MOST_PARAMETERS);
        long start = unit.getLineMap().getLineNumber(trees.getSourcePositions().getStartPosition(unit, tree));
        long end = unit.getLineMap().getLineNumber(trees.getSourcePositions().getEndPosition(unit, tree));
        rule(11, tree, "a short method", end - start < MOST_LINES);
        rule(6, tree, "throws nothing", tree.getThrows().isEmpty());
        rule(6, tree, "not synchronized", !tree.getModifiers().getFlags().contains(Modifier.SYNCHRONIZED));
        rule(3, tree, "an answer of a type that is left", tree.getReturnType() == null
                || isLeft(type(tree.getReturnType()), 0));
        return super.visitMethod(tree, nothing);
    }

    @Override
    public Void visitVariable(VariableTree tree, Void nothing) {
        Element variable = trees.getElement(getCurrentPath());
        rule(3, tree, "a type that is left", isLeft(variable.asType(), 0));
        Set<Modifier> flags = tree.getModifiers().getFlags();
        if (flags.contains(Modifier.STATIC)) {
            rule(5, tree, "final", flags.contains(Modifier.FINAL));
            rule(5, tree, "written out", isWrittenOut(tree.getInitializer()));
        }
        return super.visitVariable(tree, nothing);
    }

    private static boolean isWrittenOut(ExpressionTree tree) {
        if (tree instanceof NewArrayTree) {
            List<? extends ExpressionTree> values = ((NewArrayTree) tree).getInitializers();
            return values != null && values.stream().allMatch(SourceRules::isWrittenOut);
        }
        if (tree instanceof UnaryTree) {
            return isWrittenOut(((UnaryTree) tree).getExpression());
        }
        return tree instanceof LiteralTree;
    }

    private boolean isMadeWithTheObject() {
        for (TreePath path = getCurrentPath(); path != null; path = path.getParentPath()) {
            if (path.getLeaf() instanceof MethodTree) {
                return ((MethodTree) path.getLeaf()).getReturnType() == null;
            }
            if (path.getLeaf() instanceof ClassTree) {
                return true;
            }
        }
        return false;
    }

    @Override
    public Void visitNewClass(NewClassTree tree, Void nothing) {
        rule(2, tree, "no anonymous class", tree.getClassBody() == null);
        rule(3, tree, "an own class", isOwn(element(tree)));
        rule(12, tree, "made with the object, not by a call", isMadeWithTheObject());
        return super.visitNewClass(tree, nothing);
    }

    @Override
    public Void visitNewArray(NewArrayTree tree, Void nothing) {
        rule(12, tree, "made with the object, not by a call", isMadeWithTheObject());
        for (ExpressionTree length : tree.getDimensions()) {
            rule(7, tree, "a length that is written", isPositive(length));
        }
        return super.visitNewArray(tree, nothing);
    }

    /** A constant above 0, or a product of such ones. */
    private boolean isPositive(ExpressionTree tree) {
        if (tree instanceof BinaryTree && tree.getKind() == Tree.Kind.MULTIPLY) {
            return isPositive(((BinaryTree) tree).getLeftOperand()) && isPositive(((BinaryTree) tree).getRightOperand());
        }
        if (tree instanceof LiteralTree) {
            return ((LiteralTree) tree).getValue() instanceof Number
                    && ((Number) ((LiteralTree) tree).getValue()).doubleValue() > 0;
        }
        Element element = element(tree);
        return element instanceof javax.lang.model.element.VariableElement
                && ((javax.lang.model.element.VariableElement) element).getConstantValue() instanceof Integer
                && (Integer) ((javax.lang.model.element.VariableElement) element).getConstantValue() > 0;
    }

    @Override
    public Void visitMethodInvocation(MethodInvocationTree tree, Void nothing) {
        ExecutableElement called = (ExecutableElement) element(tree);
        TypeElement owner = (TypeElement) called.getEnclosingElement();
        String name = (owner.getSimpleName() + "." + called.getSimpleName()).replace("<init>", "Object");
        rule(4, tree, name + "() is left", isOwn(called) || LIBRARY.contains(name));
        for (TreePath path = getCurrentPath(); path != null; path = path.getParentPath()) {
            if (path.getLeaf() instanceof MethodTree) {
                calls.computeIfAbsent(trees.getElement(path), m -> new HashSet<>()).add(called);
                break;
            }
        }
        return super.visitMethodInvocation(tree, nothing);
    }

    private void operation(Tree tree, Tree.Kind kind, ExpressionTree left, ExpressionTree right) {
        boolean isText = !type(left).getKind().isPrimitive() || !type(right).getKind().isPrimitive();
        boolean isSame = kind == Tree.Kind.EQUAL_TO || kind == Tree.Kind.NOT_EQUAL_TO;
        rule(10, tree, "no text joined by +", !isText || isSame);
        if (kind == Tree.Kind.REMAINDER || kind == Tree.Kind.REMAINDER_ASSIGNMENT) {
            rule(3, tree, "no remainder of floats", !isFloating(type(left)) && !isFloating(type(right)));
        }
        Set<Tree.Kind> divisions = Set.of(Tree.Kind.DIVIDE, Tree.Kind.REMAINDER, Tree.Kind.DIVIDE_ASSIGNMENT,
                Tree.Kind.REMAINDER_ASSIGNMENT);
        if (divisions.contains(kind) && !isFloating(type(left)) && !isFloating(type(right))) {
            rule(7, tree, "a divisor that is written", isPositive(right));
        }
    }

    @Override
    public Void visitBinary(BinaryTree tree, Void nothing) {
        operation(tree, tree.getKind(), tree.getLeftOperand(), tree.getRightOperand());
        return super.visitBinary(tree, nothing);
    }

    @Override
    public Void visitCompoundAssignment(CompoundAssignmentTree tree, Void nothing) {
        operation(tree, tree.getKind(), tree.getVariable(), tree.getExpression());
        return super.visitCompoundAssignment(tree, nothing);
    }

    @Override
    public Void visitAssignment(AssignmentTree tree, Void nothing) {
        if (tree.getVariable() instanceof ArrayAccessTree) {
            Element row = element(((ArrayAccessTree) tree.getVariable()).getExpression());
            rule(5, tree, "no static row is changed", row == null || !row.getModifiers().contains(Modifier.STATIC));
        }
        return super.visitAssignment(tree, nothing);
    }

    @Override
    public Void visitLiteral(LiteralTree tree, Void nothing) {
        if (tree.getValue() instanceof Character) {
            char sign = (Character) tree.getValue();
            rule(4, tree, "a sign of 1 to 127", sign >= 1 && sign <= 127);
        }
        rule(3, tree, "no constant text", !(tree.getValue() instanceof String));
        return super.visitLiteral(tree, nothing);
    }

    private static boolean isTrue(ExpressionTree condition) {
        return condition == null || condition.toString().matches("\\(*true\\)*");
    }

    private static boolean counts(Tree statement) {
        return statement.toString().matches("(?s).*(\\+\\+|--).*");
    }

    @Override
    public Void visitForLoop(ForLoopTree tree, Void nothing) {
        rule(9, tree, "an end", !isTrue(tree.getCondition()) && !tree.getUpdate().isEmpty());
        return super.visitForLoop(tree, nothing);
    }

    @Override
    public Void visitWhileLoop(WhileLoopTree tree, Void nothing) {
        rule(9, tree, "an end", !isTrue(tree.getCondition()) && counts(tree.getStatement()));
        return super.visitWhileLoop(tree, nothing);
    }

    @Override
    public Void visitDoWhileLoop(DoWhileLoopTree tree, Void nothing) {
        rule(9, tree, "an end", !isTrue(tree.getCondition()) && counts(tree.getStatement()));
        return super.visitDoWhileLoop(tree, nothing);
    }

    @Override
    public Void visitEnhancedForLoop(EnhancedForLoopTree tree, Void nothing) {
        rule(10, tree, "over a row", type(tree.getExpression()).getKind() == TypeKind.ARRAY);
        return super.visitEnhancedForLoop(tree, nothing);
    }

    @Override
    public Void visitTypeCast(TypeCastTree tree, Void nothing) {
        rule(7, tree, "a cast of numbers", type(tree.getType()).getKind().isPrimitive()
                && type(tree.getExpression()).getKind().isPrimitive());
        return super.visitTypeCast(tree, nothing);
    }

    @Override
    public Void visitLambdaExpression(LambdaExpressionTree tree, Void nothing) {
        rule(2, tree, "no lambda", false);
        return super.visitLambdaExpression(tree, nothing);
    }

    @Override
    public Void visitMemberReference(MemberReferenceTree tree, Void nothing) {
        rule(2, tree, "no method reference", false);
        return super.visitMemberReference(tree, nothing);
    }

    @Override
    public Void visitTry(TryTree tree, Void nothing) {
        rule(6, tree, "no try, as no call of the document throws", false);
        return super.visitTry(tree, nothing);
    }

    @Override
    public Void visitThrow(ThrowTree tree, Void nothing) {
        rule(6, tree, "no throw, as no call of the document throws", false);
        return super.visitThrow(tree, nothing);
    }

    @Override
    public Void visitSynchronized(SynchronizedTree tree, Void nothing) {
        rule(6, tree, "no synchronized", false);
        return super.visitSynchronized(tree, nothing);
    }

    @Override
    public Void visitAssert(AssertTree tree, Void nothing) {
        rule(6, tree, "no assert", false);
        return super.visitAssert(tree, nothing);
    }

    @Override
    public Void visitInstanceOf(InstanceOfTree tree, Void nothing) {
        rule(6, tree, "no instanceof is needed", false);
        return super.visitInstanceOf(tree, nothing);
    }

    @Override
    public Void visitSwitchExpression(SwitchExpressionTree tree, Void nothing) {
        rule(10, tree, "no switch that is a value", false);
        return super.visitSwitchExpression(tree, nothing);
    }

    private void classesAndCalls() {
        Due.part("rule 11");
        Due.holds("some twelve classes, not " + classes, classes <= MOST_CLASSES);
        Set<String> shown = new TreeSet<>();
        Set<Element> called = new HashSet<>();
        calls.values().forEach(called::addAll);
        for (Element method : calls.keySet()) {
            if (method.getModifiers().contains(Modifier.PUBLIC)) {
                shown.add(method.getSimpleName().toString());
            }
        }
        for (Element method : calls.keySet()) {
            String name = method.getEnclosingElement().getSimpleName() + "." + method.getSimpleName();
            boolean isHidden = method.getKind() == ElementKind.METHOD
                    && method.getModifiers().contains(Modifier.PRIVATE);
            Due.part("rule 1");
            Due.holds(name + " does not bear the name of a public one",
                    !isHidden || !shown.contains(method.getSimpleName().toString()));
            Due.part("rule 11");
            int depth = depth(method, 1);
            Due.holds(name + " goes at most eight deep, not " + depth, depth <= MOST_DEPTH);
            Due.part("plain");
            Due.holds(name + " is used", method.getModifiers().contains(Modifier.PUBLIC) || called.contains(method)
                    || method.getKind() == ElementKind.CONSTRUCTOR);
        }
    }

    /** How many calls stand open at most; a method that calls itself, by others or not, is too deep. */
    private int depth(Element method, int open) {
        if (open > 100 || !isOwn(method)) {
            return open > 100 ? open : 0;
        }
        Integer known = depths.get(method);
        if (known != null) {
            return known;
        }
        int deepest = 0;
        for (Element called : calls.getOrDefault(method, Set.of())) {
            deepest = Math.max(deepest, depth(called, open + 1));
        }
        depths.put(method, deepest + 1);
        return deepest + 1;
    }
}
