import com.sun.source.tree.ArrayAccessTree;
import com.sun.source.tree.AssertTree;
import com.sun.source.tree.AssignmentTree;
import com.sun.source.tree.BinaryTree;
import com.sun.source.tree.BlockTree;
import com.sun.source.tree.ClassTree;
import com.sun.source.tree.CompilationUnitTree;
import com.sun.source.tree.CompoundAssignmentTree;
import com.sun.source.tree.DoWhileLoopTree;
import com.sun.source.tree.EnhancedForLoopTree;
import com.sun.source.tree.ExpressionTree;
import com.sun.source.tree.ForLoopTree;
import com.sun.source.tree.IdentifierTree;
import com.sun.source.tree.ImportTree;
import com.sun.source.tree.LambdaExpressionTree;
import com.sun.source.tree.LineMap;
import com.sun.source.tree.MemberReferenceTree;
import com.sun.source.tree.MemberSelectTree;
import com.sun.source.tree.MethodInvocationTree;
import com.sun.source.tree.MethodTree;
import com.sun.source.tree.NewArrayTree;
import com.sun.source.tree.NewClassTree;
import com.sun.source.tree.PrimitiveTypeTree;
import com.sun.source.tree.SynchronizedTree;
import com.sun.source.tree.ThrowTree;
import com.sun.source.tree.Tree;
import com.sun.source.tree.TryTree;
import com.sun.source.tree.TypeCastTree;
import com.sun.source.tree.UnaryTree;
import com.sun.source.tree.VariableTree;
import com.sun.source.tree.WhileLoopTree;
import com.sun.source.util.TreePath;
import com.sun.source.util.TreePathScanner;
import com.sun.source.util.TreeScanner;
import com.sun.source.util.Trees;
import java.util.ArrayDeque;
import java.util.Deque;
import java.util.HashSet;
import java.util.LinkedHashMap;
import java.util.LinkedHashSet;
import java.util.List;
import java.util.Map;
import java.util.Set;
import javax.lang.model.element.Element;
import javax.lang.model.element.ElementKind;
import javax.lang.model.element.Modifier;
import javax.lang.model.element.TypeElement;
import javax.lang.model.type.ArrayType;
import javax.lang.model.type.TypeKind;
import javax.lang.model.type.TypeMirror;

/**
 * The rules of LANGUAGE.md that the compiler's own tree of a file can tell. Stricter than the rules where the
 * class needs less than they allow: it throws and catches nothing, and has no lists and no reals.
 */
final class Rules extends TreePathScanner<Void, Void> {
    private static final Set<String> LIBRARY = Set.of("java.util.Arrays.copyOf", "java.lang.Math.max",
            "java.lang.Math.min", "java.lang.Object.<init>");
    private static final int MOST_PARAMETERS = 7, MOST_LINES = 60, MOST_DEEP = 8, MOST_CLASSES = 12, MOST_FIELDS = 20;

    private final Trees trees;
    private final CompilationUnitTree unit;
    private final Check check;
    private final Deque<Element> methods = new ArrayDeque<>();
    private final Map<Element, Set<Element>> calls = new LinkedHashMap<>();
    private final Set<Element> own = new HashSet<>();
    private final Set<String> face = new HashSet<>();
    private int classes = 0;

    Rules(Trees trees, CompilationUnitTree unit, Check check) {
        this.trees = trees;
        this.unit = unit;
        this.check = check;
    }

    /** How deep the calls go that are no recursion. */
    int look() {
        gather();
        scan(unit, null);
        rule(11, MOST_CLASSES + " classes at most", unit, classes <= MOST_CLASSES);
        int deepest = 0;
        for (Element m : calls.keySet()) {
            int deep = deepOf(m, new HashSet<>());
            rule(11, m + " goes " + deep + " deep", unit, deep <= MOST_DEEP);
            deepest = Math.max(deepest, deep);
        }
        return deepest;
    }

    private void rule(int number, String what, Tree at, boolean holds) {
        LineMap lines = unit.getLineMap();
        long line = lines.getLineNumber(Math.max(0, trees.getSourcePositions().getStartPosition(unit, at)));
        check.holds("rule " + number + ", line " + line + ": " + what, holds);
    }

    private void gather() {
        new TreePathScanner<Void, Void>() {
            @Override
            public Void visitClass(ClassTree c, Void none) {
                own.add(trees.getElement(getCurrentPath()));
                return super.visitClass(c, none);
            }

            @Override
            public Void visitMethod(MethodTree m, Void none) {
                if (m.getReturnType() != null && m.getModifiers().getFlags().contains(Modifier.PUBLIC)) {
                    face.add(m.getName().toString());
                }
                return super.visitMethod(m, none);
            }
        }.scan(unit, null);
    }

    private int deepOf(Element method, Set<Element> open) {
        int deep = 0;
        open.add(method);
        for (Element called : calls.getOrDefault(method, Set.of())) {
            if (!open.contains(called)) {
                deep = Math.max(deep, deepOf(called, open));
            }
        }
        open.remove(method);
        return deep + 1;
    }

    private Element element(Tree t) {
        return trees.getElement(new TreePath(getCurrentPath(), t));
    }

    private TypeMirror type(Tree t) {
        return trees.getTypeMirror(new TreePath(getCurrentPath(), t));
    }

    private static boolean isConstant(Element e) {
        return e.getModifiers().contains(Modifier.STATIC) && e.getModifiers().contains(Modifier.FINAL);
    }

    // ---- classes and members

    @Override
    public Void visitImport(ImportTree t, Void none) {
        rule(4, "imports Arrays alone", t, t.toString().trim().equals("import java.util.Arrays;"));
        return null;
    }

    @Override
    public Void visitClass(ClassTree c, Void none) {
        classes++;
        Element e = trees.getElement(getCurrentPath());
        boolean outer = getCurrentPath().getParentPath().getLeaf() instanceof CompilationUnitTree;
        Set<Modifier> flags = e.getModifiers();
        rule(1, "the class is public and final", c, !outer || flags.containsAll(Set.of(Modifier.PUBLIC, Modifier.FINAL)));
        rule(1, "a class inside is private and static", c, outer || flags.containsAll(Set.of(Modifier.PRIVATE, Modifier.STATIC)));
        rule(2, "a class inside stands in the class itself", c, outer || e.getEnclosingElement().getKind() == ElementKind.CLASS);
        int fields = 0;
        for (Element m : e.getEnclosedElements()) {
            fields += m.getKind() == ElementKind.FIELD && !isConstant(m) ? 1 : 0;
        }
        rule(11, fields + " fields", c, fields <= MOST_FIELDS);
        return super.visitClass(c, none);
    }

    @Override
    public Void visitBlock(BlockTree b, Void none) {
        rule(5, "no initialiser block", b, !(getCurrentPath().getParentPath().getLeaf() instanceof ClassTree));
        return super.visitBlock(b, none);
    }

    @Override
    public Void visitMethod(MethodTree m, Void none) {
        Element e = trees.getElement(getCurrentPath());
        Set<Modifier> flags = e.getModifiers();
        String name = m.getName().toString();
        rule(1, name + " bears no name of the face", m, flags.contains(Modifier.PUBLIC) || !face.contains(name));
        rule(6, name + " is none of Object's", m, !Set.of("equals", "hashCode", "toString", "finalize").contains(name));
        rule(11, name + " takes " + m.getParameters().size(), m, m.getParameters().size() <= MOST_PARAMETERS);
        LineMap lines = unit.getLineMap();
        long end = trees.getSourcePositions().getEndPosition(unit, m);
        // The constructor that the compiler makes by itself has no end of its own.
        long height = end < 0 ? 0 : 1 + lines.getLineNumber(end)
                - lines.getLineNumber(trees.getSourcePositions().getStartPosition(unit, m));
        rule(11, name + " has " + height + " lines", m, height <= MOST_LINES);
        methods.push(e);
        calls.put(e, new LinkedHashSet<>());
        super.visitMethod(m, none);
        methods.pop();
        return null;
    }

    @Override
    public Void visitVariable(VariableTree v, Void none) {
        Element e = trees.getElement(getCurrentPath());
        TypeMirror t = e.asType();
        rule(3, v.getName() + " is of " + t, v, isAllowed(t, 0));
        if (e.getModifiers().contains(Modifier.STATIC)) {
            rule(5, v.getName() + " is final", v, e.getModifiers().contains(Modifier.FINAL));
            rule(5, v.getName() + " is written out", v, isWrittenOut(v.getInitializer()));
        }
        return super.visitVariable(v, none);
    }

    private boolean isAllowed(TypeMirror t, int dimensions) {
        if (t.getKind() == TypeKind.ARRAY) {
            TypeMirror of = ((ArrayType) t).getComponentType();
            boolean numbers = of.getKind() == TypeKind.ARRAY || of.getKind().isPrimitive();
            return dimensions == 0 ? isAllowed(of, 1) : dimensions == 1 && numbers && isAllowed(of, 2);
        }
        if (t.getKind().isPrimitive()) {
            return t.getKind() != TypeKind.FLOAT && t.getKind() != TypeKind.DOUBLE;
        }
        for (Element c : own) {
            if (c.asType().toString().equals(t.toString())) {
                return dimensions < 2;
            }
        }
        return false;
    }

    @Override
    public Void visitAssignment(AssignmentTree t, Void none) {
        if (t.getVariable() instanceof ArrayAccessTree a) {
            Element of = element(a.getExpression());
            rule(5, a + " is no constant's", t, of != null && !isConstant(of));
        }
        return super.visitAssignment(t, none);
    }

    private static boolean isWrittenOut(ExpressionTree value) {
        if (value instanceof NewArrayTree a) {
            return a.getInitializers() != null && a.getInitializers().stream().allMatch(Rules::isWrittenOut);
        }
        return value != null && (value.toString().matches("-?\\d+L?") || value.toString().equals("Long.MIN_VALUE"));
    }

    // ---- what is called and made

    @Override
    public Void visitMethodInvocation(MethodInvocationTree t, Void none) {
        called(t, trees.getElement(getCurrentPath()));
        return super.visitMethodInvocation(t, none);
    }

    @Override
    public Void visitNewClass(NewClassTree t, Void none) {
        rule(2, "no anonymous class", t, t.getClassBody() == null);
        rule(3, "makes objects of its own classes alone", t, own.contains(element(t.getIdentifier())));
        called(t, trees.getElement(getCurrentPath()));
        return super.visitNewClass(t, none);
    }

    private void called(Tree t, Element e) {
        Element of = e.getEnclosingElement();
        if (own.contains(of)) {
            Element by = methods.peek();
            if (by != null) {
                calls.get(by).add(e);
                rule(12, "a constructor calls no method of its object", t, by.getKind() != ElementKind.CONSTRUCTOR
                        || e.getKind() == ElementKind.CONSTRUCTOR || e.getModifiers().contains(Modifier.STATIC));
            }
            return;
        }
        String name = ((TypeElement) of).getQualifiedName() + "." + e.getSimpleName();
        rule(4, name + " stands in the library's list", t, LIBRARY.contains(name));
    }

    @Override
    public Void visitMemberSelect(MemberSelectTree t, Void none) {
        Element e = trees.getElement(getCurrentPath());
        boolean field = e != null && e.getKind() == ElementKind.FIELD && e.getEnclosingElement() != null;
        boolean length = t.getIdentifier().contentEquals("length") && type(t.getExpression()).getKind() == TypeKind.ARRAY;
        rule(4, t + " is the class's own", t, !field || length || own.contains(e.getEnclosingElement())
                || t.toString().equals("Long.MIN_VALUE"));
        return super.visitMemberSelect(t, none);
    }

    @Override
    public Void visitIdentifier(IdentifierTree t, Void none) {
        boolean handed = t.getName().contentEquals("this") && !methods.isEmpty()
                && methods.peek().getKind() == ElementKind.CONSTRUCTOR
                && !(getCurrentPath().getParentPath().getLeaf() instanceof MemberSelectTree);
        rule(12, "a constructor hands out nothing", t, !handed);
        return super.visitIdentifier(t, none);
    }

    // ---- what is not there at all

    @Override
    public Void visitLambdaExpression(LambdaExpressionTree t, Void none) {
        rule(2, "no lambda", t, false);
        return null;
    }

    @Override
    public Void visitMemberReference(MemberReferenceTree t, Void none) {
        rule(2, "no method reference", t, false);
        return null;
    }

    @Override
    public Void visitThrow(ThrowTree t, Void none) {
        rule(6, "nothing is thrown", t, false);
        return null;
    }

    @Override
    public Void visitTry(TryTree t, Void none) {
        rule(6, "nothing is caught", t, false);
        return null;
    }

    @Override
    public Void visitAssert(AssertTree t, Void none) {
        rule(6, "no assert", t, false);
        return null;
    }

    @Override
    public Void visitSynchronized(SynchronizedTree t, Void none) {
        rule(6, "no synchronized", t, false);
        return null;
    }

    @Override
    public Void visitPrimitiveType(PrimitiveTypeTree t, Void none) {
        rule(3, "no reals", t, t.getPrimitiveTypeKind() != TypeKind.FLOAT && t.getPrimitiveTypeKind() != TypeKind.DOUBLE);
        return null;
    }

    @Override
    public Void visitTypeCast(TypeCastTree t, Void none) {
        rule(7, "casts among numbers alone", t, t.getType() instanceof PrimitiveTypeTree);
        return super.visitTypeCast(t, none);
    }

    // ---- divisors, joined texts, loops

    @Override
    public Void visitBinary(BinaryTree t, Void none) {
        if (t.getKind() == Tree.Kind.DIVIDE || t.getKind() == Tree.Kind.REMAINDER) {
            divisor(t, t.getRightOperand());
        }
        rule(10, "no joining by +", t, type(t.getLeftOperand()).getKind() != TypeKind.DECLARED
                || t.getKind() != Tree.Kind.PLUS);
        return super.visitBinary(t, none);
    }

    @Override
    public Void visitCompoundAssignment(CompoundAssignmentTree t, Void none) {
        if (t.getKind() == Tree.Kind.DIVIDE_ASSIGNMENT || t.getKind() == Tree.Kind.REMAINDER_ASSIGNMENT) {
            divisor(t, t.getExpression());
        }
        return super.visitCompoundAssignment(t, none);
    }

    private void divisor(Tree at, ExpressionTree by) {
        boolean number = by.toString().matches("[1-9]\\d*");
        TreePath path = getCurrentPath();
        while (!(path.getLeaf() instanceof MethodTree) && path.getParentPath() != null) {
            path = path.getParentPath();
        }
        rule(7, by + " is looked at before it divides", at, number || compared(path.getLeaf()).contains(by.toString()));
    }

    private static Set<String> compared(Tree in) {
        Set<String> names = new HashSet<>();
        new TreeScanner<Void, Void>() {
            @Override
            public Void visitBinary(BinaryTree t, Void none) {
                if (List.of(Tree.Kind.EQUAL_TO, Tree.Kind.LESS_THAN, Tree.Kind.LESS_THAN_EQUAL, Tree.Kind.GREATER_THAN,
                        Tree.Kind.GREATER_THAN_EQUAL, Tree.Kind.NOT_EQUAL_TO).contains(t.getKind())) {
                    names.add(t.getLeftOperand().toString());
                    names.add(t.getRightOperand().toString());
                }
                return super.visitBinary(t, none);
            }
        }.scan(in, null);
        return names;
    }

    private static Set<String> changed(Tree in) {
        Set<String> names = new HashSet<>();
        new TreeScanner<Void, Void>() {
            @Override
            public Void visitUnary(UnaryTree t, Void none) {
                names.add(t.getExpression().toString());
                return super.visitUnary(t, none);
            }

            @Override
            public Void visitAssignment(AssignmentTree t, Void none) {
                names.add(t.getVariable().toString());
                return super.visitAssignment(t, none);
            }

            @Override
            public Void visitCompoundAssignment(CompoundAssignmentTree t, Void none) {
                names.add(t.getVariable().toString());
                return super.visitCompoundAssignment(t, none);
            }
        }.scan(in, null);
        return names;
    }

    private void loop(Tree t, ExpressionTree condition, Tree body) {
        Set<String> counters = condition == null ? new HashSet<>() : compared(condition);
        counters.retainAll(changed(body));
        rule(9, "a counter ends the loop", t, !counters.isEmpty());
    }

    @Override
    public Void visitForLoop(ForLoopTree t, Void none) {
        loop(t, t.getCondition(), t);
        return super.visitForLoop(t, none);
    }

    @Override
    public Void visitWhileLoop(WhileLoopTree t, Void none) {
        loop(t, t.getCondition(), t);
        return super.visitWhileLoop(t, none);
    }

    @Override
    public Void visitDoWhileLoop(DoWhileLoopTree t, Void none) {
        loop(t, t.getCondition(), t);
        return super.visitDoWhileLoop(t, none);
    }

    @Override
    public Void visitEnhancedForLoop(EnhancedForLoopTree t, Void none) {
        rule(9, "runs over an array", t, type(t.getExpression()).getKind() == TypeKind.ARRAY);
        return super.visitEnhancedForLoop(t, none);
    }
}
