import com.sun.source.tree.AssertTree;
import com.sun.source.tree.BinaryTree;
import com.sun.source.tree.ClassTree;
import com.sun.source.tree.CompilationUnitTree;
import com.sun.source.tree.CompoundAssignmentTree;
import com.sun.source.tree.ExpressionTree;
import com.sun.source.tree.ForLoopTree;
import com.sun.source.tree.ImportTree;
import com.sun.source.tree.LambdaExpressionTree;
import com.sun.source.tree.LiteralTree;
import com.sun.source.tree.MemberReferenceTree;
import com.sun.source.tree.MethodInvocationTree;
import com.sun.source.tree.MethodTree;
import com.sun.source.tree.NewArrayTree;
import com.sun.source.tree.NewClassTree;
import com.sun.source.tree.SynchronizedTree;
import com.sun.source.tree.ThrowTree;
import com.sun.source.tree.Tree;
import com.sun.source.tree.TryTree;
import com.sun.source.tree.VariableTree;
import com.sun.source.tree.WhileLoopTree;
import com.sun.source.util.TreePath;
import com.sun.source.util.TreePathScanner;
import com.sun.source.util.Trees;
import java.util.HashSet;
import java.util.List;
import java.util.Map;
import java.util.Set;
import java.util.TreeMap;
import java.util.TreeSet;
import javax.lang.model.element.Element;
import javax.lang.model.element.ElementKind;
import javax.lang.model.element.Modifier;
import javax.lang.model.type.ArrayType;
import javax.lang.model.type.TypeKind;
import javax.lang.model.type.TypeMirror;

/** Walks through the compiled source and looks at each place that a rule of LANGUAGE.md speaks of. */
final class LanguageRules extends TreePathScanner<Void, Void> {
    private static final int MOST_LINES = 60;
    private static final int MOST_PARAMETERS = 7;
    private static final int MOST_CLASSES = 12;
    private static final int MOST_FIELDS = 20;
    private static final int MOST_DEPTH = 8;
    private static final Set<String> IMPORTS = Set.of("java.util.ArrayList", "java.util.List", "java.util.Arrays",
            "java.util.Iterator", "java.util.NoSuchElementException");
    private static final Set<String> NUMBERS = Set.of("compare", "max", "min", "abs", "signum", "bitCount",
            "floorDiv", "floorMod", "lowestOneBit", "highestOneBit", "numberOfLeadingZeros", "numberOfTrailingZeros");
    private static final Set<String> LIST = Set.of("add", "get", "set", "remove", "size", "isEmpty", "clear", "of");
    private static final Map<String, Set<String>> LIBRARY = Map.of(
            "java.lang.Object", Set.of("<init>", "clone"),
            "java.lang.String", Set.of("length", "charAt", "isEmpty", "equals", "indexOf", "substring", "toCharArray"),
            "java.lang.StringBuilder", Set.of("append", "charAt", "setCharAt", "setLength", "deleteCharAt", "reverse",
                    "length", "toString"),
            "java.lang.Integer", NUMBERS, "java.lang.Long", NUMBERS, "java.lang.Math", NUMBERS,
            "java.util.ArrayList", LIST, "java.util.List", LIST,
            "java.util.Arrays", Set.of("copyOf", "copyOfRange", "fill"), "java.lang.System", Set.of("arraycopy"));
    private static final Set<String> EXCEPTIONS = Set.of("IllegalStateException", "IllegalArgumentException",
            "IndexOutOfBoundsException", "ArithmeticException", "UnsupportedOperationException",
            "NoSuchElementException", "RuntimeException");
    /** Where else than in constructors and first values of fields something may be made. */
    private static final Set<String> MAKERS = Set.of("RingGroup.send");

    private final Checks checks;
    private final Trees trees;
    private final CompilationUnitTree unit;
    private final Map<String, Set<String>> calls = new TreeMap<>();
    private int classes;

    LanguageRules(Checks checks, Trees trees, CompilationUnitTree unit) {
        this.checks = checks;
        this.trees = trees;
        this.unit = unit;
    }

    private void rule(int number, Tree at, boolean kept) {
        long line = unit.getLineMap().getLineNumber(trees.getSourcePositions().getStartPosition(unit, at));
        checks.by("rule " + number);
        checks.due("line " + line + " keeps it", kept, true);
    }

    /** What can only be said of all that was seen. */
    void end() {
        rule(1, unit, unit.getPackageName() == null && unit.getTypeDecls().size() == 1);
        rule(11, unit, classes <= MOST_CLASSES);
        for (String method : calls.keySet()) {
            int depth = depthOf(method, new HashSet<>());
            checks.by("rule 11");
            checks.due("calls of " + method + " go deep: " + depth, depth <= MOST_DEPTH, true);
        }
    }

    /** How many calls stand open at once at most; a recursion counts as too many. */
    private int depthOf(String method, Set<String> open) {
        if (!open.add(method)) {
            return MOST_DEPTH + 1;
        }
        int deepest = 0;
        for (String called : calls.getOrDefault(method, Set.of())) {
            deepest = Math.max(deepest, depthOf(called, open));
        }
        open.remove(method);
        return deepest + 1;
    }

    @Override
    public Void visitImport(ImportTree at, Void none) {
        rule(4, at, IMPORTS.contains(at.getQualifiedIdentifier().toString()));
        return null;
    }

    @Override
    public Void visitClass(ClassTree at, Void none) {
        classes++;
        Tree around = getCurrentPath().getParentPath().getLeaf();
        rule(2, at, around instanceof ClassTree || around instanceof CompilationUnitTree);
        int fields = 0;
        for (Tree member : at.getMembers()) {
            rule(5, member, member.getKind() != Tree.Kind.BLOCK);
            fields += member instanceof VariableTree field && !isStatic(field) ? 1 : 0;
        }
        rule(11, at, fields <= MOST_FIELDS);
        return super.visitClass(at, none);
    }

    private static boolean isStatic(VariableTree at) {
        return at.getModifiers().getFlags().contains(Modifier.STATIC);
    }

    @Override
    public Void visitMethod(MethodTree at, Void none) {
        rule(11, at, at.getParameters().size() <= MOST_PARAMETERS);
        long begin = trees.getSourcePositions().getStartPosition(unit, at);
        long end = trees.getSourcePositions().getEndPosition(unit, at);
        if (end >= 0) {
            rule(11, at, unit.getLineMap().getLineNumber(end) - unit.getLineMap().getLineNumber(begin) < MOST_LINES);
        }
        if (at.getReturnType() != null) {
            rule(3, at, isType(trees.getTypeMirror(new TreePath(getCurrentPath(), at.getReturnType()))));
        }
        calls.putIfAbsent(nameOf(elementOf(at)), new TreeSet<>());
        return super.visitMethod(at, none);
    }

    @Override
    public Void visitVariable(VariableTree at, Void none) {
        TypeMirror type = trees.getTypeMirror(getCurrentPath());
        rule(3, at, isType(type));
        if (isStatic(at)) {
            boolean plain = type.getKind().isPrimitive() || type.toString().equals("java.lang.String")
                    || type instanceof ArrayType array && array.getComponentType().getKind().isPrimitive();
            rule(5, at, plain && at.getModifiers().getFlags().contains(Modifier.FINAL));
        }
        return super.visitVariable(at, none);
    }

    private static boolean isType(TypeMirror type) {
        if (type instanceof ArrayType array) {
            TypeMirror inside = array.getComponentType();
            return inside.getKind().isPrimitive() || isOwn(inside)
                    || inside instanceof ArrayType row && row.getComponentType().getKind().isPrimitive();
        }
        String name = type.toString().replaceFirst("<.*", "");
        return type.getKind() == TypeKind.VOID || type.getKind().isPrimitive() || isOwn(type)
                || Set.of("java.lang.String", "java.lang.StringBuilder", "java.lang.Integer", "java.util.ArrayList",
                        "java.util.List").contains(name);
    }

    private static boolean isOwn(TypeMirror type) {
        return type.toString().equals("RingGroup") || type.toString().startsWith("RingGroup.");
    }

    private Element elementOf(Tree at) {
        return trees.getElement(at == getCurrentPath().getLeaf() ? getCurrentPath()
                : new TreePath(getCurrentPath(), at));
    }

    private static String nameOf(Element method) {
        return method.getEnclosingElement().getSimpleName() + "." + method.getSimpleName();
    }

    /** The method round the place that is looked at; null in the first value of a field. */
    private Element methodAround() {
        for (TreePath path = getCurrentPath(); path != null; path = path.getParentPath()) {
            if (path.getLeaf() instanceof MethodTree) {
                return trees.getElement(path);
            }
        }
        return null;
    }

    @Override
    public Void visitMethodInvocation(MethodInvocationTree at, Void none) {
        Element called = elementOf(at.getMethodSelect());
        String owner = called.getEnclosingElement().toString();
        boolean own = owner.startsWith("RingGroup");
        rule(4, at, own || LIBRARY.getOrDefault(owner, Set.of()).contains(called.getSimpleName().toString()));
        if (own) {
            calls.computeIfAbsent(nameOf(methodAround()), name -> new TreeSet<>()).add(nameOf(called));
        }
        return super.visitMethodInvocation(at, none);
    }

    @Override
    public Void visitNewClass(NewClassTree at, Void none) {
        if (getCurrentPath().getParentPath().getLeaf() instanceof ThrowTree) {
            List<? extends ExpressionTree> text = at.getArguments();
            rule(6, at, EXCEPTIONS.contains(at.getIdentifier().toString()));
            rule(6, at, text.isEmpty() || text.size() == 1 && text.get(0) instanceof LiteralTree);
        } else {
            rule(3, at, isType(trees.getTypeMirror(getCurrentPath())));
            madeHere(at);
        }
        return super.visitNewClass(at, none);
    }

    @Override
    public Void visitNewArray(NewArrayTree at, Void none) {
        madeHere(at);
        return super.visitNewArray(at, none);
    }

    private void madeHere(Tree at) {
        Element method = methodAround();
        rule(12, at, method == null || method.getKind() == ElementKind.CONSTRUCTOR || MAKERS.contains(nameOf(method)));
    }

    @Override
    public Void visitThrow(ThrowTree at, Void none) {
        rule(6, at, at.getExpression() instanceof NewClassTree);
        rule(6, at, methodAround().getKind() != ElementKind.CONSTRUCTOR);
        return super.visitThrow(at, none);
    }

    @Override
    public Void visitTry(TryTree at, Void none) {
        rule(6, at, at.getFinallyBlock() == null && at.getResources().isEmpty());
        return super.visitTry(at, none);
    }

    @Override
    public Void visitForLoop(ForLoopTree at, Void none) {
        rule(9, at, at.getCondition() != null);
        return super.visitForLoop(at, none);
    }

    @Override
    public Void visitWhileLoop(WhileLoopTree at, Void none) {
        rule(9, at, !at.getCondition().toString().equals("(true)"));
        return super.visitWhileLoop(at, none);
    }

    @Override
    public Void visitBinary(BinaryTree at, Void none) {
        rule(10, at, !trees.getTypeMirror(getCurrentPath()).toString().equals("java.lang.String"));
        return super.visitBinary(at, none);
    }

    @Override
    public Void visitCompoundAssignment(CompoundAssignmentTree at, Void none) {
        rule(10, at, !trees.getTypeMirror(getCurrentPath()).toString().equals("java.lang.String"));
        return super.visitCompoundAssignment(at, none);
    }

    @Override
    public Void visitLambdaExpression(LambdaExpressionTree at, Void none) {
        rule(2, at, false);
        return null;
    }

    @Override
    public Void visitMemberReference(MemberReferenceTree at, Void none) {
        rule(2, at, false);
        return null;
    }

    @Override
    public Void visitSynchronized(SynchronizedTree at, Void none) {
        rule(6, at, false);
        return null;
    }

    @Override
    public Void visitAssert(AssertTree at, Void none) {
        rule(6, at, false);
        return null;
    }
}
