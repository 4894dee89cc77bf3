import com.sun.source.tree.AssertTree;
import com.sun.source.tree.BinaryTree;
import com.sun.source.tree.ClassTree;
import com.sun.source.tree.CompilationUnitTree;
import com.sun.source.tree.DoWhileLoopTree;
import com.sun.source.tree.ExpressionTree;
import com.sun.source.tree.ForLoopTree;
import com.sun.source.tree.ImportTree;
import com.sun.source.tree.LambdaExpressionTree;
import com.sun.source.tree.MemberReferenceTree;
import com.sun.source.tree.MethodInvocationTree;
import com.sun.source.tree.MethodTree;
import com.sun.source.tree.NewArrayTree;
import com.sun.source.tree.NewClassTree;
import com.sun.source.tree.SynchronizedTree;
import com.sun.source.tree.ThrowTree;
import com.sun.source.tree.Tree;
import com.sun.source.tree.TryTree;
import com.sun.source.tree.TypeCastTree;
import com.sun.source.tree.VariableTree;
import com.sun.source.tree.WhileLoopTree;
import com.sun.source.util.JavacTask;
import com.sun.source.util.TreePath;
import com.sun.source.util.TreePathScanner;
import com.sun.source.util.Trees;
import java.util.ArrayDeque;
import java.util.Deque;
import java.util.List;
import java.util.Map;
import java.util.Set;
import java.util.TreeMap;
import java.util.TreeSet;
import javax.lang.model.element.Element;
import javax.lang.model.element.Modifier;
import javax.lang.model.type.ArrayType;
import javax.lang.model.type.TypeKind;
import javax.lang.model.type.TypeMirror;
import javax.tools.JavaCompiler;
import javax.tools.StandardJavaFileManager;
import javax.tools.ToolProvider;

/**
 * The rules of ../shared/LANGUAGE.md that can be read off the program's text. What the program does
 * not need is refused, though a rule may leave it: whoever needs it reads the rule and lets it in.
 * FaceTests looks after rule 1. An argument names another file to be read.
 */
public final class LanguageTests extends TreePathScanner<Void, Void> {
    private static final String PROGRAM = "src/main/java/HourClock.java";
    private static final int MOST_CLASSES = 12;
    private static final int MOST_FIELDS = 20;
    private static final int MOST_PARAMETERS = 7;
    private static final int MOST_LINES = 60;
    private static final int DEEPEST = 8;
    private static final Set<String> EXCEPTIONS = Set.of("IllegalStateException", "IllegalArgumentException",
        "IndexOutOfBoundsException", "ArithmeticException", "UnsupportedOperationException",
        "java.util.NoSuchElementException", "RuntimeException");
    private static final Set<String> OF_NUMBERS = Set.of("java.lang.Math", "java.lang.Integer", "java.lang.Long");

    private final Trees trees;
    private final CompilationUnitTree unit;
    private final Deque<String> classes = new ArrayDeque<>();
    private final Map<String, Set<String>> calls = new TreeMap<>();
    /** The method that is being read, or null in the initialiser of a field. */
    private MethodTree method = null;
    private int classCount = 0;

    private LanguageTests(Trees trees, CompilationUnitTree unit) {
        this.trees = trees;
        this.unit = unit;
    }

    public static void main(String[] args) throws Exception {
        JavaCompiler compiler = ToolProvider.getSystemJavaCompiler();
        try (StandardJavaFileManager files = compiler.getStandardFileManager(null, null, null)) {
            JavacTask task = (JavacTask) compiler.getTask(null, files, null, List.of("-proc:none"), null,
                files.getJavaFileObjects(args.length > 0 ? args[0] : PROGRAM));
            CompilationUnitTree unit = task.parse().iterator().next();
            task.analyze();
            LanguageTests reader = new LanguageTests(Trees.instance(task), unit);
            reader.scan(unit, null);
            reader.theWhole();
        }
        Check.end("LanguageTests");
    }

    private void theWhole() {
        if (unit.getPackageName() != null || unit.getTypeDecls().size() != 1) {
            Check.tell("rule 1: one class without a package");
        }
        if (classCount > MOST_CLASSES) {
            Check.tell("rule 11: " + classCount + " classes");
        }
        for (String caller : calls.keySet()) {
            deepestFrom(caller, new ArrayDeque<>());
        }
    }

    /** Rules 8 and 11: no recursion, and no chain of calls that is too long. */
    private void deepestFrom(String caller, Deque<String> open) {
        if (open.contains(caller)) {
            Check.tell("rule 8: a recursion, " + open + " and " + caller + " again");
            return;
        }
        open.addLast(caller);
        if (open.size() > DEEPEST) {
            Check.tell("rule 11: calls that are too deep, " + open);
        } else {
            for (String called : calls.getOrDefault(caller, Set.of())) {
                deepestFrom(called, open);
            }
        }
        open.removeLast();
    }

    private void wrong(int rule, Tree where) {
        long line = unit.getLineMap().getLineNumber(trees.getSourcePositions().getStartPosition(unit, where));
        Check.tell("line " + line + ": look rule " + rule + " up");
    }

    private boolean inConstructor() {
        return method != null && method.getName().contentEquals("<init>");
    }

    private void called(String name) {
        String caller = classes.peek() + "." + (method == null ? "<init>" : method.getName());
        calls.computeIfAbsent(caller, c -> new TreeSet<>()).add(name);
    }

    private boolean isOwn(Element type) {
        return type.toString().equals("HourClock") || type.toString().startsWith("HourClock.");
    }

    private TypeMirror typeOf(Tree tree) {
        return trees.getTypeMirror(new TreePath(getCurrentPath(), tree));
    }

    private Element elementOf(Tree tree) {
        return trees.getElement(new TreePath(getCurrentPath(), tree));
    }

    @Override
    public Void visitImport(ImportTree tree, Void v) {
        wrong(4, tree);
        return super.visitImport(tree, v);
    }

    @Override
    public Void visitClass(ClassTree tree, Void v) {
        classCount++;
        Set<Modifier> modifiers = tree.getModifiers().getFlags();
        Set<Modifier> due = classes.isEmpty() ? Set.of(Modifier.PUBLIC, Modifier.FINAL)
            : Set.of(Modifier.PRIVATE, Modifier.STATIC, Modifier.FINAL);
        if (!modifiers.equals(due) || tree.getExtendsClause() != null || !tree.getImplementsClause().isEmpty()) {
            wrong(2, tree);
        }
        long fields = tree.getMembers().stream().filter(m -> m instanceof VariableTree)
            .filter(m -> !((VariableTree) m).getModifiers().getFlags().contains(Modifier.STATIC)).count();
        if (fields > MOST_FIELDS) {
            wrong(11, tree);
        }
        if (tree.getMembers().stream().anyMatch(m -> m.getKind() == Tree.Kind.BLOCK)) {
            wrong(5, tree);
        }
        classes.push(trees.getElement(getCurrentPath()).toString());
        super.visitClass(tree, v);
        classes.pop();
        return null;
    }

    @Override
    public Void visitMethod(MethodTree tree, Void v) {
        method = tree;
        long begin = trees.getSourcePositions().getStartPosition(unit, tree);
        long end = trees.getSourcePositions().getEndPosition(unit, tree);
        boolean written = end >= 0;
        if (written && unit.getLineMap().getLineNumber(end) - unit.getLineMap().getLineNumber(begin) >= MOST_LINES) {
            wrong(11, tree);
        }
        if (tree.getParameters().size() > MOST_PARAMETERS) {
            wrong(11, tree);
        }
        // Methods are told apart by class and name in the chains of calls, so no two may share both.
        long alike = ((ClassTree) getCurrentPath().getParentPath().getLeaf()).getMembers().stream()
            .filter(m -> m instanceof MethodTree).filter(m -> ((MethodTree) m).getName().equals(tree.getName())).count();
        if (alike != 1) {
            wrong(8, tree);
        }
        super.visitMethod(tree, v);
        method = null;
        return null;
    }

    @Override
    public Void visitVariable(VariableTree tree, Void v) {
        TypeMirror type = trees.getTypeMirror(getCurrentPath());
        boolean isArray = type.getKind() == TypeKind.ARRAY;
        TypeMirror inside = isArray ? ((ArrayType) type).getComponentType() : type;
        boolean isText = inside.toString().equals("java.lang.String");
        if (!inside.getKind().isPrimitive() && !isText && !inside.toString().startsWith("HourClock.")) {
            wrong(3, tree);
        }
        Set<Modifier> modifiers = tree.getModifiers().getFlags();
        boolean isConstant = modifiers.contains(Modifier.FINAL) && (inside.getKind().isPrimitive() || isText);
        if (modifiers.contains(Modifier.STATIC) && !isConstant) {
            wrong(5, tree);
        }
        return super.visitVariable(tree, v);
    }

    @Override
    public Void visitMethodInvocation(MethodInvocationTree tree, Void v) {
        Element called = elementOf(tree.getMethodSelect());
        Element owner = called.getEnclosingElement();
        String name = owner + "." + called.getSimpleName();
        boolean ofNumbers = OF_NUMBERS.contains(owner.toString()) && !name.endsWith("Exact");
        for (ExpressionTree argument : tree.getArguments()) {
            TypeKind kind = typeOf(argument).getKind();
            ofNumbers &= kind == TypeKind.INT || kind == TypeKind.LONG;
        }
        boolean ofObject = name.equals("java.lang.Object.<init>");
        if (!isOwn(owner) && !ofNumbers && !ofObject && !name.equals("java.lang.System.arraycopy")) {
            wrong(4, tree);
        }
        if (!ofObject) {
            called(name);
        }
        return super.visitMethodInvocation(tree, v);
    }

    /** Objects of the program are made in constructors alone (rule 12), exceptions where they are thrown. */
    @Override
    public Void visitNewClass(NewClassTree tree, Void v) {
        Element type = elementOf(tree.getIdentifier());
        boolean thrown = getCurrentPath().getParentPath().getLeaf() instanceof ThrowTree;
        if (!thrown && (!isOwn(type) || method != null && !inConstructor())) {
            wrong(12, tree);
        }
        called(type + ".<init>");
        return super.visitNewClass(tree, v);
    }

    @Override
    public Void visitNewArray(NewArrayTree tree, Void v) {
        if (method != null && !inConstructor()) {
            wrong(12, tree);
        }
        if (tree.getDimensions().size() != 1) {
            wrong(3, tree);
        }
        return super.visitNewArray(tree, v);
    }

    @Override
    public Void visitThrow(ThrowTree tree, Void v) {
        boolean right = !inConstructor() && tree.getExpression() instanceof NewClassTree;
        if (right) {
            NewClassTree made = (NewClassTree) tree.getExpression();
            right = EXCEPTIONS.contains(made.getIdentifier().toString());
            for (ExpressionTree argument : made.getArguments()) {
                right &= argument.getKind() == Tree.Kind.STRING_LITERAL;
            }
        }
        if (!right) {
            wrong(6, tree);
        }
        return super.visitThrow(tree, v);
    }

    @Override
    public Void visitTry(TryTree tree, Void v) {
        wrong(6, tree);
        return super.visitTry(tree, v);
    }

    @Override
    public Void visitSynchronized(SynchronizedTree tree, Void v) {
        wrong(6, tree);
        return super.visitSynchronized(tree, v);
    }

    @Override
    public Void visitAssert(AssertTree tree, Void v) {
        wrong(6, tree);
        return super.visitAssert(tree, v);
    }

    @Override
    public Void visitLambdaExpression(LambdaExpressionTree tree, Void v) {
        wrong(2, tree);
        return super.visitLambdaExpression(tree, v);
    }

    @Override
    public Void visitMemberReference(MemberReferenceTree tree, Void v) {
        wrong(2, tree);
        return super.visitMemberReference(tree, v);
    }

    @Override
    public Void visitTypeCast(TypeCastTree tree, Void v) {
        if (!typeOf(tree.getType()).getKind().isPrimitive()) {
            wrong(7, tree);
        }
        return super.visitTypeCast(tree, v);
    }

    /** The rule lets while and do stand with a counter, which for shows in one line. */
    @Override
    public Void visitWhileLoop(WhileLoopTree tree, Void v) {
        wrong(9, tree);
        return super.visitWhileLoop(tree, v);
    }

    @Override
    public Void visitDoWhileLoop(DoWhileLoopTree tree, Void v) {
        wrong(9, tree);
        return super.visitDoWhileLoop(tree, v);
    }

    @Override
    public Void visitForLoop(ForLoopTree tree, Void v) {
        if (tree.getInitializer().size() != 1 || tree.getCondition() == null || tree.getUpdate().size() != 1) {
            wrong(9, tree);
        }
        return super.visitForLoop(tree, v);
    }

    @Override
    public Void visitBinary(BinaryTree tree, Void v) {
        boolean joins = tree.getKind() == Tree.Kind.PLUS && !typeOf(tree).getKind().isPrimitive();
        if (joins) {
            wrong(10, tree);
        }
        boolean divides = tree.getKind() == Tree.Kind.DIVIDE || tree.getKind() == Tree.Kind.REMAINDER;
        // The only divisor is the second, which sounding() tests first.
        if (divides && (method == null || !method.getName().contentEquals("sounding"))) {
            wrong(7, tree);
        }
        return super.visitBinary(tree, v);
    }
}
