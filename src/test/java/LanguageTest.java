import com.sun.source.tree.AssertTree;
import com.sun.source.tree.BinaryTree;
import com.sun.source.tree.ClassTree;
import com.sun.source.tree.CompilationUnitTree;
import com.sun.source.tree.CompoundAssignmentTree;
import com.sun.source.tree.DoWhileLoopTree;
import com.sun.source.tree.ExpressionTree;
import com.sun.source.tree.ForLoopTree;
import com.sun.source.tree.ImportTree;
import com.sun.source.tree.LambdaExpressionTree;
import com.sun.source.tree.LiteralTree;
import com.sun.source.tree.MemberReferenceTree;
import com.sun.source.tree.MethodInvocationTree;
import com.sun.source.tree.MethodTree;
import com.sun.source.tree.NewArrayTree;
import com.sun.source.tree.NewClassTree;
import com.sun.source.tree.SynchronizedTree;
import com.sun.source.tree.ThrowTree;
import com.sun.source.tree.Tree;
import com.sun.source.tree.TryTree;
import com.sun.source.tree.TypeCastTree;
import com.sun.source.tree.VariableTree;
import com.sun.source.tree.WhileLoopTree;
import com.sun.source.util.JavacTask;
import com.sun.source.util.SourcePositions;
import com.sun.source.util.TreePath;
import com.sun.source.util.TreePathScanner;
import com.sun.source.util.Trees;
import java.io.IOException;
import java.nio.file.Path;
import java.util.HashSet;
import java.util.List;
import java.util.Map;
import java.util.Set;
import java.util.TreeMap;
import java.util.TreeSet;
import javax.lang.model.element.Element;
import javax.lang.model.element.ElementKind;
import javax.lang.model.element.Modifier;
import javax.lang.model.type.ArrayType;
import javax.lang.model.type.TypeKind;
import javax.lang.model.type.TypeMirror;
import javax.tools.JavaCompiler;
import javax.tools.StandardJavaFileManager;
import javax.tools.ToolProvider;

/**
 * The rules of ../shared/LANGUAGE.md that the source alone can show, read from the tree that javac makes of it. Where
 * the class keeps to less than a rule allows (no try, no lists, no objects made by calls), the less is what is tested.
 */
public final class LanguageTest extends TreePathScanner<Void, Void> {
    private static final Set<String> LIBRARY = Set.of("String.length", "String.charAt", "Math.min", "Math.max",
        "System.arraycopy");
    private static final Set<String> EXCEPTIONS = Set.of("IllegalStateException", "IllegalArgumentException",
        "IndexOutOfBoundsException", "NoSuchElementException");

    private final Trees trees;
    private final CompilationUnitTree unit;
    private final Set<String> classes = new TreeSet<>();
    private final Map<String, Set<String>> calls = new TreeMap<>();
    private final Set<String> methods = new TreeSet<>();

    private LanguageTest(Trees trees, CompilationUnitTree unit) {
        this.trees = trees;
        this.unit = unit;
    }

    public static void main(String[] args) throws IOException {
        Path file = Path.of(args.length > 0 ? args[0] : "src/main/java/WeatherInsurance.java");
        JavaCompiler javac = ToolProvider.getSystemJavaCompiler();
        try (StandardJavaFileManager files = javac.getStandardFileManager(null, null, null)) {
            List<String> options = List.of("-proc:none");
            JavacTask task = (JavacTask) javac.getTask(null, files, null, options, null, files.getJavaFileObjects(file));
            CompilationUnitTree unit = task.parse().iterator().next();
            task.analyze();
            LanguageTest test = new LanguageTest(Trees.instance(task), unit);
            test.collectClasses();
            test.scan(unit, null);
            test.depths();
        }
        Check.end();
    }

    private String place(Tree tree) {
        SourcePositions positions = trees.getSourcePositions();
        return "line " + line(positions.getStartPosition(unit, tree)) + ", " + method();
    }

    private long line(long position) {
        return unit.getLineMap().getLineNumber(position);
    }

    private void never(Tree tree, String what) {
        Check.same(place(tree) + ": " + what, true, false);
    }

    // ---- classes, fields and types (rules 1, 2, 3, 5 and 11) ----

    private void collectClasses() {
        new TreePathScanner<Void, Void>() {
            @Override
            public Void visitClass(ClassTree tree, Void unused) {
                classes.add(tree.getSimpleName().toString());
                return super.visitClass(tree, unused);
            }
        }.scan(unit, null);
        Check.same("at most twelve classes: " + classes, classes.size() <= 12, true);
    }

    @Override
    public Void visitClass(ClassTree tree, Void unused) {
        boolean isInside = getCurrentPath().getParentPath().getLeaf() instanceof ClassTree;
        boolean isOuter = getCurrentPath().getParentPath().getLeaf() instanceof CompilationUnitTree;
        Check.same("no local class: " + tree.getSimpleName(), isInside || isOuter, true);
        Check.same("static inside: " + tree.getSimpleName(),
            isOuter || tree.getModifiers().getFlags().contains(Modifier.STATIC), true);
        int fields = 0;
        for (Tree member : tree.getMembers()) {
            boolean isField = member instanceof VariableTree;
            fields += isField && !((VariableTree) member).getModifiers().getFlags().contains(Modifier.STATIC) ? 1 : 0;
            Check.same("no initialiser block in " + tree.getSimpleName(), member.getKind() != Tree.Kind.BLOCK, true);
        }
        Check.same("at most twenty fields in " + tree.getSimpleName(), fields <= 20, true);
        return super.visitClass(tree, unused);
    }

    @Override
    public Void visitVariable(VariableTree tree, Void unused) {
        TypeMirror type = trees.getElement(getCurrentPath()).asType();
        Check.same(place(tree) + ": the type of " + tree, isAllowed(type), true);
        Set<Modifier> flags = tree.getModifiers().getFlags();
        if (flags.contains(Modifier.STATIC)) {
            Check.same(place(tree) + ": final: " + tree, flags.contains(Modifier.FINAL), true);
            Check.same(place(tree) + ": a constant: " + tree,
                type.getKind().isPrimitive() || type.toString().equals("java.lang.String"), true);
        }
        return super.visitVariable(tree, unused);
    }

    private boolean isAllowed(TypeMirror type) {
        if (type.getKind() != TypeKind.ARRAY) {
            return type.getKind().isPrimitive() || type.getKind() == TypeKind.VOID
                || type.toString().equals("java.lang.String") || isOwn(type);
        }
        TypeMirror part = ((ArrayType) type).getComponentType();
        if (part.getKind() == TypeKind.ARRAY) {
            return ((ArrayType) part).getComponentType().getKind().isPrimitive();
        }
        return part.getKind().isPrimitive() || isOwn(part);
    }

    private boolean isOwn(TypeMirror type) {
        String name = type.toString();
        return name.startsWith("WeatherInsurance") && classes.contains(name.substring(name.lastIndexOf('.') + 1));
    }

    @Override
    public Void visitImport(ImportTree tree, Void unused) {
        Check.same("import", tree.getQualifiedIdentifier().toString(), "java.util.NoSuchElementException");
        return null;
    }

    // ---- methods and calls (rules 1, 4, 6, 8, 11 and 12) ----

    private MethodTree methodTree() {
        for (TreePath path = getCurrentPath(); path != null; path = path.getParentPath()) {
            if (path.getLeaf() instanceof MethodTree) {
                return (MethodTree) path.getLeaf();
            }
        }
        return null;
    }

    /** The method around this place; what stands in a field's initialiser is done by the constructor. */
    private String method() {
        MethodTree method = methodTree();
        for (TreePath path = getCurrentPath(); path != null; path = path.getParentPath()) {
            if (path.getLeaf() instanceof ClassTree) {
                String name = ((ClassTree) path.getLeaf()).getSimpleName().toString();
                return name + "." + (method == null ? "<init>" : method.getName());
            }
        }
        return "the file";
    }

    private boolean isInConstructor() {
        MethodTree method = methodTree();
        return method == null || method.getName().contentEquals("<init>");
    }

    @Override
    public Void visitMethod(MethodTree tree, Void unused) {
        String name = tree.getName().toString();
        int count = tree.getParameters().size();
        SourcePositions positions = trees.getSourcePositions();
        // Constructors that nobody wrote have the place of their class.
        if (positions.getEndPosition(unit, tree) >= 0) {
            long lines = line(positions.getEndPosition(unit, tree)) - line(positions.getStartPosition(unit, tree)) + 1;
            Check.same(method() + ": at most sixty lines", lines <= 60, true);
        }
        Check.same(method() + ": at most seven parameters", count <= 7, true);
        Check.same(method() + ": one of its name, so that calls are told apart", methods.add(method()), true);
        Check.same(method() + ": not what all objects have", Set.of("equals", "hashCode", "toString").contains(name), false);
        if (!tree.getModifiers().getFlags().contains(Modifier.PUBLIC) && !name.equals("<init>")) {
            Check.same(method() + ": not the name of a public one", publicNames().contains(name), false);
        }
        return super.visitMethod(tree, unused);
    }

    private Set<String> publicNames() {
        Set<String> names = new HashSet<>();
        for (java.lang.reflect.Method method : WeatherInsurance.class.getMethods()) {
            names.add(method.getName());
        }
        return names;
    }

    @Override
    public Void visitMethodInvocation(MethodInvocationTree tree, Void unused) {
        call(tree, trees.getElement(getCurrentPath()));
        return super.visitMethodInvocation(tree, unused);
    }

    private void call(Tree tree, Element called) {
        String owner = called.getEnclosingElement().getSimpleName().toString();
        String name = owner + "." + called.getSimpleName();
        if (classes.contains(owner)) {
            calls.computeIfAbsent(method(), key -> new TreeSet<>()).add(name);
        } else if (!name.equals("Object.<init>")) {
            Check.same(place(tree) + ": in the library: " + name, LIBRARY.contains(name), true);
        }
    }

    @Override
    public Void visitNewClass(NewClassTree tree, Void unused) {
        Element made = trees.getElement(getCurrentPath());
        String name = made.getEnclosingElement().getSimpleName().toString();
        if (classes.contains(name)) {
            Check.same(place(tree) + ": made in a constructor: " + name, isInConstructor(), true);
            call(tree, made);
        } else {
            Tree parent = getCurrentPath().getParentPath().getLeaf();
            Check.same(place(tree) + ": made to be thrown: " + name, parent instanceof ThrowTree, true);
            Check.same(place(tree) + ": an exception of the document: " + name, EXCEPTIONS.contains(name), true);
            boolean isWritten = tree.getArguments().size() == 1 && tree.getArguments().get(0) instanceof LiteralTree;
            Check.same(place(tree) + ": with a written text", isWritten, true);
        }
        Check.same(place(tree) + ": no anonymous class", tree.getClassBody() == null, true);
        return super.visitNewClass(tree, unused);
    }

    @Override
    public Void visitNewArray(NewArrayTree tree, Void unused) {
        Check.same(place(tree) + ": made in a constructor: " + tree, isInConstructor(), true);
        return super.visitNewArray(tree, unused);
    }

    @Override
    public Void visitThrow(ThrowTree tree, Void unused) {
        Check.same(place(tree) + ": a new exception", tree.getExpression() instanceof NewClassTree, true);
        Check.same(place(tree) + ": no throw in a constructor", isInConstructor(), false);
        return super.visitThrow(tree, unused);
    }

    private void depths() {
        int deepest = 0;
        for (String method : calls.keySet()) {
            int depth = depthOf(method, new TreeSet<>());
            Check.same("calls from " + method + " go at most eight deep", depth <= 8, true);
            deepest = Math.max(deepest, depth);
        }
        Check.same("calls were found", deepest > 1, true);
        Check.same("methods were found", methods.size() > 60, true);
    }

    private int depthOf(String method, Set<String> above) {
        if (!above.add(method)) {
            Check.same("no recursion: " + method, true, false);
            return 0;
        }
        int deepest = 0;
        for (String called : calls.getOrDefault(method, Set.of())) {
            deepest = Math.max(deepest, depthOf(called, above));
        }
        above.remove(method);
        return deepest + 1;
    }

    // ---- statements and expressions (rules 2, 3, 6, 9 and 10) ----

    @Override
    public Void visitLambdaExpression(LambdaExpressionTree tree, Void unused) {
        never(tree, "no lambda");
        return null;
    }

    @Override
    public Void visitMemberReference(MemberReferenceTree tree, Void unused) {
        never(tree, "no method reference");
        return null;
    }

    @Override
    public Void visitTry(TryTree tree, Void unused) {
        never(tree, "no try");
        return null;
    }

    @Override
    public Void visitSynchronized(SynchronizedTree tree, Void unused) {
        never(tree, "no synchronized");
        return null;
    }

    @Override
    public Void visitAssert(AssertTree tree, Void unused) {
        never(tree, "no assert");
        return null;
    }

    @Override
    public Void visitLiteral(LiteralTree tree, Void unused) {
        if (tree.getValue() instanceof String) {
            String text = (String) tree.getValue();
            Check.same(place(tree) + ": signs 1 to 127: " + text, text.matches("[\\x01-\\x7f]*"), true);
        }
        return super.visitLiteral(tree, unused);
    }

    @Override
    public Void visitTypeCast(TypeCastTree tree, Void unused) {
        Check.same(place(tree) + ": a cast of numbers", isNumber(tree) && isNumber(tree.getExpression()), true);
        return super.visitTypeCast(tree, unused);
    }

    private boolean isNumber(Tree tree) {
        TypeMirror type = trees.getTypeMirror(new TreePath(getCurrentPath(), tree));
        return type != null && type.getKind().isPrimitive();
    }

    @Override
    public Void visitBinary(BinaryTree tree, Void unused) {
        Check.same(place(tree) + ": only numbers and booleans in " + tree,
            isNumber(tree.getLeftOperand()) && isNumber(tree.getRightOperand()), true);
        if (tree.getKind() == Tree.Kind.DIVIDE || tree.getKind() == Tree.Kind.REMAINDER) {
            divisor(tree, tree.getRightOperand());
        }
        return super.visitBinary(tree, unused);
    }

    @Override
    public Void visitCompoundAssignment(CompoundAssignmentTree tree, Void unused) {
        Check.same(place(tree) + ": only numbers in " + tree,
            isNumber(tree.getVariable()) && isNumber(tree.getExpression()), true);
        if (tree.getKind() == Tree.Kind.DIVIDE_ASSIGNMENT || tree.getKind() == Tree.Kind.REMAINDER_ASSIGNMENT) {
            divisor(tree, tree.getExpression());
        }
        return super.visitCompoundAssignment(tree, unused);
    }

    /** Whole numbers are divided by constants, or by a variable that the same statement compares first. */
    private void divisor(Tree tree, ExpressionTree divisor) {
        TypeMirror type = trees.getTypeMirror(new TreePath(getCurrentPath(), divisor));
        if (type.getKind() == TypeKind.FLOAT || type.getKind() == TypeKind.DOUBLE) {
            return;
        }
        Element element = trees.getElement(new TreePath(getCurrentPath(), divisor));
        boolean isConstant = divisor instanceof LiteralTree || element != null && element.getKind() == ElementKind.FIELD
            && element.getModifiers().containsAll(Set.of(Modifier.STATIC, Modifier.FINAL));
        boolean isCompared = false;
        for (TreePath path = getCurrentPath(); path != null && !(path.getLeaf() instanceof MethodTree); path = path.getParentPath()) {
            isCompared |= path.getLeaf().toString().contains(divisor + " > 0 ?");
        }
        Check.same(place(tree) + ": looked at before it divides: " + divisor, isConstant || isCompared, true);
    }

    @Override
    public Void visitWhileLoop(WhileLoopTree tree, Void unused) {
        Check.same(place(tree) + ": a loop with a bound", tree.getCondition().toString().matches(".*[<>].*"), true);
        return super.visitWhileLoop(tree, unused);
    }

    @Override
    public Void visitDoWhileLoop(DoWhileLoopTree tree, Void unused) {
        Check.same(place(tree) + ": a loop with a bound", tree.getCondition().toString().matches(".*[<>].*"), true);
        return super.visitDoWhileLoop(tree, unused);
    }

    @Override
    public Void visitForLoop(ForLoopTree tree, Void unused) {
        Check.same(place(tree) + ": a loop with a bound",
            tree.getCondition() != null && tree.getCondition().toString().matches(".*[<>].*"), true);
        return super.visitForLoop(tree, unused);
    }
}
