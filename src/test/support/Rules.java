import com.sun.source.tree.ArrayAccessTree;
import com.sun.source.tree.AssertTree;
import com.sun.source.tree.AssignmentTree;
import com.sun.source.tree.BinaryTree;
import com.sun.source.tree.BlockTree;
import com.sun.source.tree.ClassTree;
import com.sun.source.tree.CompilationUnitTree;
import com.sun.source.tree.CompoundAssignmentTree;
import com.sun.source.tree.DoWhileLoopTree;
import com.sun.source.tree.EnhancedForLoopTree;
import com.sun.source.tree.ExpressionTree;
import com.sun.source.tree.ForLoopTree;
import com.sun.source.tree.LambdaExpressionTree;
import com.sun.source.tree.LiteralTree;
import com.sun.source.tree.MemberReferenceTree;
import com.sun.source.tree.MemberSelectTree;
import com.sun.source.tree.MethodInvocationTree;
import com.sun.source.tree.MethodTree;
import com.sun.source.tree.NewArrayTree;
import com.sun.source.tree.NewClassTree;
import com.sun.source.tree.ParenthesizedTree;
import com.sun.source.tree.PrimitiveTypeTree;
import com.sun.source.tree.SynchronizedTree;
import com.sun.source.tree.ThrowTree;
import com.sun.source.tree.Tree;
import com.sun.source.tree.TryTree;
import com.sun.source.tree.UnaryTree;
import com.sun.source.tree.VariableTree;
import com.sun.source.tree.WhileLoopTree;
import com.sun.source.util.JavacTask;
import com.sun.source.util.TreePath;
import com.sun.source.util.TreePathScanner;
import com.sun.source.util.Trees;
import java.io.IOException;
import java.net.URI;
import java.util.HashSet;
import java.util.LinkedHashMap;
import java.util.LinkedHashSet;
import java.util.List;
import java.util.Map;
import java.util.Set;
import java.util.TreeSet;
import javax.lang.model.element.Element;
import javax.lang.model.element.ElementKind;
import javax.lang.model.element.Modifier;
import javax.lang.model.element.TypeElement;
import javax.lang.model.type.ArrayType;
import javax.lang.model.type.DeclaredType;
import javax.lang.model.type.TypeKind;
import javax.lang.model.type.TypeMirror;
import javax.tools.DiagnosticCollector;
import javax.tools.JavaFileObject;
import javax.tools.SimpleJavaFileObject;
import javax.tools.ToolProvider;

/**
 * Reads a program as the compiler does and tells which rules of LANGUAGE.md it breaks, as far as its
 * lines alone show that: rule 7 they do not. It is narrower than the rules where BallotBoard needs
 * less: no text but in a throw, no list, no catch, no recursion, rows made in constructors alone.
 */
final class Rules extends TreePathScanner<Void, Void> {
    private static final int MOST_PARAMETERS = 7;
    private static final int MOST_LINES = 60;
    private static final int MOST_DEPTH = 8;
    private static final int MOST_CLASSES = 12;
    private static final int MOST_FIELDS = 20;

    private static final Set<String> LIBRARY = Set.of("java.lang.Math.min", "java.lang.Math.max", "java.lang.System.arraycopy");
    private static final Set<String> EXCEPTIONS = Set.of("java.lang.IllegalStateException",
            "java.lang.IllegalArgumentException", "java.lang.IndexOutOfBoundsException");
    private static final Set<TypeKind> NUMBERS = Set.of(TypeKind.INT, TypeKind.LONG);

    private final Trees trees;
    private final CompilationUnitTree unit;
    private final Set<String> broken = new TreeSet<>();
    private final Map<Element, Set<Element>> callsOf = new LinkedHashMap<>();
    private int classes = 0;

    private Rules(Trees trees, CompilationUnitTree unit) {
        this.trees = trees;
        this.unit = unit;
    }

    /** The rules that BallotBoard, written so, breaks: each with the name of what breaks it. */
    static Set<String> brokenBy(String source) {
        JavaFileObject file = new SimpleJavaFileObject(URI.create("string:///BallotBoard.java"), JavaFileObject.Kind.SOURCE) {
            @Override
            public CharSequence getCharContent(boolean ignoreErrors) {
                return source;
            }
        };
        List<String> options = List.of("--release", "17", "-proc:none", "-nowarn");
        DiagnosticCollector<JavaFileObject> told = new DiagnosticCollector<>();
        JavacTask task = (JavacTask) ToolProvider.getSystemJavaCompiler().getTask(null, null, told, options, null, List.of(file));
        try {
            CompilationUnitTree unit = task.parse().iterator().next();
            task.analyze();
            if (!told.getDiagnostics().isEmpty()) {
                throw new IllegalStateException(told.getDiagnostics().toString());
            }
            Rules rules = new Rules(Trees.instance(task), unit);
            rules.scan(unit, null);
            rules.lookAtCalls();
            return rules.broken;
        } catch (IOException e) {
            throw new IllegalStateException(e);
        }
    }

    private void expect(boolean kept, int rule, Object what) {
        if (!kept) {
            broken.add("rule " + rule + ": " + what);
        }
    }

    @Override
    public Void visitCompilationUnit(CompilationUnitTree tree, Void none) {
        expect(tree.getPackageName() == null, 1, "a package");
        expect(tree.getImports().isEmpty(), 4, "an import");
        return super.visitCompilationUnit(tree, none);
    }

    @Override
    public Void visitClass(ClassTree tree, Void none) {
        Element element = here();
        classes++;
        expect(classes <= MOST_CLASSES, 11, "more classes than " + MOST_CLASSES);
        if (element.getEnclosingElement().getKind() == ElementKind.PACKAGE) {
            expect(element.getModifiers().equals(Set.of(Modifier.PUBLIC, Modifier.FINAL)), 1, tree.getSimpleName());
            lookAtNames(element);
        } else {
            expect(getCurrentPath().getParentPath().getLeaf() instanceof ClassTree, 2, "a class in a method");
            expect(element.getModifiers().containsAll(Set.of(Modifier.PRIVATE, Modifier.STATIC)), 1, tree.getSimpleName());
        }
        lookAtFields(element);
        return super.visitClass(tree, none);
    }

    private void lookAtNames(Element face) {
        Set<String> visible = new HashSet<>();
        for (Element member : face.getEnclosedElements()) {
            if (!member.getModifiers().contains(Modifier.PRIVATE)) {
                expect(member.getModifiers().contains(Modifier.PUBLIC), 1, member.getSimpleName());
                visible.add(member.getSimpleName().toString());
            }
        }
        for (Element member : face.getEnclosedElements()) {
            boolean hidden = member.getKind() == ElementKind.METHOD && member.getModifiers().contains(Modifier.PRIVATE);
            expect(!hidden || !visible.contains(member.getSimpleName().toString()), 1, member.getSimpleName());
        }
    }

    private void lookAtFields(Element owner) {
        int fields = 0;
        for (Element member : owner.getEnclosedElements()) {
            if (member.getKind() == ElementKind.FIELD && !isStatic(member)) {
                fields++;
            }
        }
        expect(fields <= MOST_FIELDS, 11, "fields of " + owner.getSimpleName());
    }

    @Override
    public Void visitMethod(MethodTree tree, Void none) {
        String name = tree.getName().toString();
        callsOf.putIfAbsent(here(), new LinkedHashSet<>());
        expect(tree.getParameters().size() <= MOST_PARAMETERS, 11, "parameters of " + name);
        expect(linesOf(tree) <= MOST_LINES, 11, "lines of " + name);
        expect(!tree.getModifiers().getFlags().contains(Modifier.SYNCHRONIZED), 6, "synchronized " + name);
        expect(!Set.of("equals", "hashCode", "toString", "finalize").contains(name), 6, name);
        return super.visitMethod(tree, none);
    }

    private long linesOf(Tree tree) {
        long from = trees.getSourcePositions().getStartPosition(unit, tree);
        long to = trees.getSourcePositions().getEndPosition(unit, tree);
        // A constructor that the compiler adds has no end.
        return to < 0 ? 0 : unit.getLineMap().getLineNumber(to) - unit.getLineMap().getLineNumber(from) + 1;
    }

    @Override
    public Void visitVariable(VariableTree tree, Void none) {
        Element element = here();
        expect(isKnownType(element.asType()), 3, "type of " + tree.getName());
        if (element.getKind() == ElementKind.FIELD && isStatic(element)) {
            boolean written = tree.getInitializer() instanceof NewArrayTree row && row.getInitializers() != null;
            boolean array = element.asType().getKind() == TypeKind.ARRAY;
            boolean object = element.asType().getKind() == TypeKind.DECLARED;
            boolean isFinal = element.getModifiers().contains(Modifier.FINAL);
            expect(isFinal && !object && (!array || written), 5, tree.getName());
        }
        return super.visitVariable(tree, none);
    }

    private boolean isKnownType(TypeMirror type) {
        if (type instanceof ArrayType row) {
            TypeMirror inside = row.getComponentType();
            boolean numbers = inside instanceof ArrayType deep && NUMBERS.contains(deep.getComponentType().getKind());
            return numbers || NUMBERS.contains(inside.getKind());
        }
        boolean own = type instanceof DeclaredType declared && isOwn(declared.asElement());
        return own || type.getKind() == TypeKind.BOOLEAN || NUMBERS.contains(type.getKind());
    }

    @Override
    public Void visitBlock(BlockTree tree, Void none) {
        expect(!tree.isStatic(), 5, "a static block");
        return super.visitBlock(tree, none);
    }

    @Override
    public Void visitAssignment(AssignmentTree tree, Void none) {
        lookAtTarget(tree.getVariable());
        return super.visitAssignment(tree, none);
    }

    @Override
    public Void visitCompoundAssignment(CompoundAssignmentTree tree, Void none) {
        lookAtTarget(tree.getVariable());
        return super.visitCompoundAssignment(tree, none);
    }

    @Override
    public Void visitUnary(UnaryTree tree, Void none) {
        if (tree.getKind().name().endsWith("CREMENT")) {
            lookAtTarget(tree.getExpression());
        }
        return super.visitUnary(tree, none);
    }

    private void lookAtTarget(ExpressionTree target) {
        if (target instanceof ArrayAccessTree access) {
            Element row = elementOf(access.getExpression());
            expect(row == null || row.getKind() != ElementKind.FIELD || !isStatic(row), 5, "a constant row is changed: " + row);
        }
    }

    @Override
    public Void visitLambdaExpression(LambdaExpressionTree tree, Void none) {
        expect(false, 2, "a lambda");
        return super.visitLambdaExpression(tree, none);
    }

    @Override
    public Void visitMemberReference(MemberReferenceTree tree, Void none) {
        expect(false, 2, "a method reference");
        return super.visitMemberReference(tree, none);
    }

    @Override
    public Void visitMethodInvocation(MethodInvocationTree tree, Void none) {
        Element called = here();
        if (isOwn(called)) {
            noteCallOf(called);
        } else if (!isConstructorOfObject(called)) {
            String name = called.getEnclosingElement() + "." + called.getSimpleName();
            expect(LIBRARY.contains(name), 4, name);
        }
        return super.visitMethodInvocation(tree, none);
    }

    /** The compiler begins each constructor with super(). */
    private static boolean isConstructorOfObject(Element called) {
        return called.getEnclosingElement().toString().equals("java.lang.Object") && called.getKind() == ElementKind.CONSTRUCTOR;
    }

    @Override
    public Void visitMemberSelect(MemberSelectTree tree, Void none) {
        Element element = here();
        boolean foreign = element != null && element.getKind() == ElementKind.FIELD && !isOwn(element);
        expect(!foreign || tree.getIdentifier().contentEquals("length"), 4, tree);
        return super.visitMemberSelect(tree, none);
    }

    @Override
    public Void visitNewClass(NewClassTree tree, Void none) {
        Element made = here();
        expect(!isInLoop(), 12, "an object is made in a loop: " + tree);
        if (isOwn(made)) {
            noteCallOf(made);
        } else {
            boolean thrown = getCurrentPath().getParentPath().getLeaf() instanceof ThrowTree;
            expect(thrown, 4, tree);
        }
        return super.visitNewClass(tree, none);
    }

    @Override
    public Void visitNewArray(NewArrayTree tree, Void none) {
        expect(tree.getInitializers() != null || isInConstructor(), 12, "a row is made in a method: " + tree);
        return super.visitNewArray(tree, none);
    }

    @Override
    public Void visitThrow(ThrowTree tree, Void none) {
        expect(!isInConstructor(), 6, "a throw in a constructor");
        boolean plain = tree.getExpression() instanceof NewClassTree made && made.getArguments().size() <= 1
                && made.getArguments().stream().allMatch(told -> told.getKind() == Tree.Kind.STRING_LITERAL)
                && EXCEPTIONS.contains(elementOf(made).getEnclosingElement().toString());
        expect(plain, 6, tree);
        return super.visitThrow(tree, none);
    }

    @Override
    public Void visitTry(TryTree tree, Void none) {
        expect(false, 6, "a try");
        return super.visitTry(tree, none);
    }

    @Override
    public Void visitSynchronized(SynchronizedTree tree, Void none) {
        expect(false, 6, "synchronized");
        return super.visitSynchronized(tree, none);
    }

    @Override
    public Void visitAssert(AssertTree tree, Void none) {
        expect(false, 6, "an assert");
        return super.visitAssert(tree, none);
    }

    @Override
    public Void visitForLoop(ForLoopTree tree, Void none) {
        expect(tree.getCondition() != null && compares(tree.getCondition()) && !tree.getUpdate().isEmpty(), 9, "a for without a bound");
        return super.visitForLoop(tree, none);
    }

    @Override
    public Void visitWhileLoop(WhileLoopTree tree, Void none) {
        expect(compares(tree.getCondition()), 9, "a while without a bound");
        return super.visitWhileLoop(tree, none);
    }

    @Override
    public Void visitDoWhileLoop(DoWhileLoopTree tree, Void none) {
        expect(compares(tree.getCondition()), 9, "a do without a bound");
        return super.visitDoWhileLoop(tree, none);
    }

    /** Whether it holds only while one number is below another, whatever else it asks for. */
    private static boolean compares(ExpressionTree condition) {
        ExpressionTree inside = condition;
        while (inside instanceof ParenthesizedTree parentheses) {
            inside = parentheses.getExpression();
        }
        if (!(inside instanceof BinaryTree binary)) {
            return false;
        }
        if (binary.getKind() == Tree.Kind.CONDITIONAL_AND) {
            return compares(binary.getLeftOperand()) || compares(binary.getRightOperand());
        }
        return Set.of(Tree.Kind.LESS_THAN, Tree.Kind.LESS_THAN_EQUAL, Tree.Kind.GREATER_THAN, Tree.Kind.GREATER_THAN_EQUAL)
                .contains(binary.getKind());
    }

    @Override
    public Void visitBinary(BinaryTree tree, Void none) {
        TypeMirror type = trees.getTypeMirror(getCurrentPath());
        expect(type.getKind() != TypeKind.DECLARED, 10, "texts joined by +: " + tree);
        return super.visitBinary(tree, none);
    }

    @Override
    public Void visitLiteral(LiteralTree tree, Void none) {
        if (tree.getValue() instanceof String text) {
            expect(text.chars().allMatch(character -> character <= 255), 3, text);
            expect(isTold(), 3, "a text beside a throw: " + text);
        }
        return super.visitLiteral(tree, none);
    }

    private boolean isTold() {
        TreePath made = getCurrentPath().getParentPath();
        return made.getLeaf() instanceof NewClassTree && made.getParentPath().getLeaf() instanceof ThrowTree;
    }

    @Override
    public Void visitPrimitiveType(PrimitiveTypeTree tree, Void none) {
        TypeKind kind = tree.getPrimitiveTypeKind();
        expect(NUMBERS.contains(kind) || kind == TypeKind.BOOLEAN || kind == TypeKind.VOID, 3, kind);
        return super.visitPrimitiveType(tree, none);
    }

    private boolean isInConstructor() {
        MethodTree method = methodHere();
        return method != null && method.getReturnType() == null;
    }

    private boolean isInLoop() {
        boolean found = false;
        for (Tree leaf : getCurrentPath()) {
            found = found || leaf instanceof ForLoopTree || leaf instanceof EnhancedForLoopTree
                    || leaf instanceof WhileLoopTree || leaf instanceof DoWhileLoopTree;
        }
        return found;
    }

    private MethodTree methodHere() {
        for (Tree leaf : getCurrentPath()) {
            if (leaf instanceof MethodTree method) {
                return method;
            }
        }
        return null;
    }

    private void noteCallOf(Element called) {
        MethodTree caller = methodHere();
        if (caller != null) {
            Element method = trees.getElement(TreePath.getPath(unit, caller));
            callsOf.computeIfAbsent(method, key -> new LinkedHashSet<>()).add(called);
        }
    }

    private void lookAtCalls() {
        for (Element method : callsOf.keySet()) {
            expect(depthOf(method, new HashSet<>()) <= MOST_DEPTH, 11, "calls deeper than " + MOST_DEPTH);
        }
    }

    private int depthOf(Element method, Set<Element> open) {
        if (!open.add(method)) {
            expect(false, 8, "recursion of " + method.getSimpleName());
            return 0;
        }
        int deepest = 0;
        for (Element called : callsOf.getOrDefault(method, Set.of())) {
            deepest = Math.max(deepest, depthOf(called, open));
        }
        open.remove(method);
        return deepest + 1;
    }

    private Element here() {
        return trees.getElement(getCurrentPath());
    }

    private Element elementOf(ExpressionTree tree) {
        return trees.getElement(TreePath.getPath(unit, tree));
    }

    private static boolean isStatic(Element element) {
        return element.getModifiers().contains(Modifier.STATIC);
    }

    private static boolean isOwn(Element element) {
        for (Element owner = element; owner != null; owner = owner.getEnclosingElement()) {
            if (owner instanceof TypeElement type && type.getQualifiedName().contentEquals("BallotBoard")) {
                return true;
            }
        }
        return false;
    }
}
