import com.sun.source.tree.AssertTree;
import com.sun.source.tree.BinaryTree;
import com.sun.source.tree.ClassTree;
import com.sun.source.tree.CompilationUnitTree;
import com.sun.source.tree.InstanceOfTree;
import com.sun.source.tree.LambdaExpressionTree;
import com.sun.source.tree.LiteralTree;
import com.sun.source.tree.MemberReferenceTree;
import com.sun.source.tree.MethodInvocationTree;
import com.sun.source.tree.MethodTree;
import com.sun.source.tree.NewArrayTree;
import com.sun.source.tree.NewClassTree;
import com.sun.source.tree.SynchronizedTree;
import com.sun.source.tree.ThrowTree;
import com.sun.source.tree.Tree;
import com.sun.source.tree.TryTree;
import com.sun.source.tree.TypeCastTree;
import com.sun.source.tree.VariableTree;
import com.sun.source.util.JavacTask;
import com.sun.source.util.SourcePositions;
import com.sun.source.util.TreePath;
import com.sun.source.util.TreePathScanner;
import com.sun.source.util.Trees;
import java.io.IOException;
import java.nio.file.Path;
import java.util.ArrayList;
import java.util.LinkedHashMap;
import java.util.LinkedHashSet;
import java.util.List;
import java.util.Map;
import java.util.Set;
import javax.lang.model.element.Element;
import javax.lang.model.element.ElementKind;
import javax.lang.model.element.ExecutableElement;
import javax.lang.model.element.Modifier;
import javax.lang.model.element.TypeElement;
import javax.lang.model.type.ArrayType;
import javax.lang.model.type.DeclaredType;
import javax.lang.model.type.TypeKind;
import javax.lang.model.type.TypeMirror;
import javax.tools.JavaCompiler;
import javax.tools.StandardJavaFileManager;
import javax.tools.ToolProvider;

/** Goes through a source as the compiler understands it, and gathers what LANGUAGE.md does not allow, and which method calls which. */
final class CodeScan extends TreePathScanner<Void, Void> {
    private static final Set<String> LIBRARY = Set.of("String.length", "String.charAt", "String.isEmpty", "String.equals", "Math.min", "Math.max", "Math.abs",
        "System.arraycopy", "Arrays.fill", "Arrays.copyOf", "Arrays.copyOfRange", "int[].clone");
    private static final int DEPTH = 8, LINES = 60, PARAMETERS = 7, FIELDS = 20, CLASSES = 12;

    final List<String> faults = new ArrayList<>();
    final Set<String> library = new LinkedHashSet<>();
    private final Map<Element, Set<Element>> calls = new LinkedHashMap<>();
    private final Trees trees;
    private final CompilationUnitTree unit;
    private final SourcePositions positions;
    private Element within;
    private int classes;

    private CodeScan(JavacTask task, CompilationUnitTree itsUnit) {
        trees = Trees.instance(task);
        unit = itsUnit;
        positions = trees.getSourcePositions();
    }

    static CodeScan of(Path source) throws IOException {
        JavaCompiler compiler = ToolProvider.getSystemJavaCompiler();
        try (StandardJavaFileManager files = compiler.getStandardFileManager(null, null, null)) {
            JavacTask task = (JavacTask) compiler.getTask(null, files, null, List.of("-proc:none"), null, files.getJavaFileObjects(source));
            CompilationUnitTree unit = task.parse().iterator().next();
            task.analyze();
            CodeScan scan = new CodeScan(task, unit);
            scan.scan(unit, null);
            scan.lookAtCalls();
            return scan;
        }
    }

    private long line(long position) {
        return unit.getLineMap().getLineNumber(position);
    }

    private void fault(Tree at, String said) {
        faults.add("line " + line(positions.getStartPosition(unit, at)) + ": " + said);
    }

    // ---- rules 1, 2, 11: classes, fields, methods

    @Override
    public Void visitClass(ClassTree tree, Void none) {
        TypeElement element = (TypeElement) trees.getElement(getCurrentPath());
        classes++;
        if (classes > CLASSES) fault(tree, "too many classes");
        boolean inside = element.getEnclosingElement().getKind() != ElementKind.PACKAGE;
        if (inside && (!element.getModifiers().contains(Modifier.STATIC) || element.getEnclosingElement().getKind() != ElementKind.CLASS)) {
            fault(tree, "a class that is not static, local or without a name");
        }
        int fields = 0;
        for (Tree member : tree.getMembers()) {
            if (member instanceof VariableTree v && !v.getModifiers().getFlags().contains(Modifier.STATIC)) fields++;
            if (member.getKind() == Tree.Kind.BLOCK) fault(member, "an initialiser block");
        }
        if (fields > FIELDS) fault(tree, fields + " fields");
        Element outer = within;
        within = element;
        super.visitClass(tree, none);
        within = outer;
        return null;
    }

    @Override
    public Void visitMethod(MethodTree tree, Void none) {
        Element outer = within;
        within = trees.getElement(getCurrentPath());
        calls.computeIfAbsent(within, e -> new LinkedHashSet<>());
        long from = positions.getStartPosition(unit, tree);
        long to = positions.getEndPosition(unit, tree);
        if (to >= 0 && line(to) - line(from) >= LINES) fault(tree, "a long method");
        if (tree.getParameters().size() > PARAMETERS) fault(tree, "too many parameters");
        super.visitMethod(tree, none);
        within = outer;
        return null;
    }

    // ---- rules 3, 5: types, static fields

    @Override
    public Void visitVariable(VariableTree tree, Void none) {
        Element element = trees.getElement(getCurrentPath());
        if (!isAllowed(element.asType(), true)) fault(tree, "the type " + element.asType());
        if (element.getModifiers().contains(Modifier.STATIC) && !element.getModifiers().contains(Modifier.FINAL)) fault(tree, "static and not final");
        return super.visitVariable(tree, none);
    }

    private boolean isAllowed(TypeMirror type, boolean arrayToo) {
        if (type.getKind().isPrimitive()) return type.getKind() != TypeKind.DOUBLE && type.getKind() != TypeKind.FLOAT;
        if (type instanceof ArrayType array) return arrayToo && isAllowed(array.getComponentType(), false);
        return isString(type) || (type instanceof DeclaredType declared && isOwn(declared.asElement()));
    }

    private static boolean isString(TypeMirror type) {
        return type instanceof DeclaredType declared && ((TypeElement) declared.asElement()).getQualifiedName().contentEquals("java.lang.String");
    }

    private static boolean isOwn(Element element) {
        for (Element e = element; e != null; e = e.getEnclosingElement()) {
            if (e instanceof TypeElement t && t.getQualifiedName().contentEquals("CitedWorks")) return true;
        }
        return false;
    }

    // ---- rules 4, 12: the library, what is made

    @Override
    public Void visitMethodInvocation(MethodInvocationTree tree, Void none) {
        ExecutableElement called = (ExecutableElement) trees.getElement(getCurrentPath());
        boolean superclass = called.getKind() == ElementKind.CONSTRUCTOR;
        if (isOwn(called)) {
            noteCall(called);
        } else if (!superclass) {
            String owner = called.getEnclosingElement().getSimpleName().toString();
            String name = (owner.equals("Array") ? "int[]" : owner) + "." + called.getSimpleName();
            library.add(name);
            if (!LIBRARY.contains(name)) fault(tree, "the library's " + name);
        }
        return super.visitMethodInvocation(tree, none);
    }

    @Override
    public Void visitNewClass(NewClassTree tree, Void none) {
        Element made = trees.getElement(getCurrentPath());
        if (!isOwn(made)) fault(tree, "an object of the library");
        if (within.getKind() == ElementKind.METHOD) fault(tree, "an object made by a call");
        noteCall(made);
        return super.visitNewClass(tree, none);
    }

    @Override
    public Void visitNewArray(NewArrayTree tree, Void none) {
        if (within.getKind() == ElementKind.METHOD) fault(tree, "an array made by a call");
        if (tree.getDimensions().size() > 1) fault(tree, "an array of several dimensions");
        return super.visitNewArray(tree, none);
    }

    /** What a field is made with is called by the constructors of its class. */
    private void noteCall(Element called) {
        if (within.getKind() != ElementKind.CLASS) {
            calls.computeIfAbsent(within, e -> new LinkedHashSet<>()).add(called);
            return;
        }
        for (Element e : within.getEnclosedElements()) {
            if (e.getKind() == ElementKind.CONSTRUCTOR) calls.computeIfAbsent(e, x -> new LinkedHashSet<>()).add(called);
        }
    }

    // ---- rules 6, 10: what may not be written

    @Override
    public Void visitThrow(ThrowTree tree, Void none) {
        fault(tree, "throw");
        return super.visitThrow(tree, none);
    }

    @Override
    public Void visitTry(TryTree tree, Void none) {
        fault(tree, "try");
        return super.visitTry(tree, none);
    }

    @Override
    public Void visitAssert(AssertTree tree, Void none) {
        fault(tree, "assert");
        return super.visitAssert(tree, none);
    }

    @Override
    public Void visitSynchronized(SynchronizedTree tree, Void none) {
        fault(tree, "synchronized");
        return super.visitSynchronized(tree, none);
    }

    @Override
    public Void visitLambdaExpression(LambdaExpressionTree tree, Void none) {
        fault(tree, "a lambda");
        return super.visitLambdaExpression(tree, none);
    }

    @Override
    public Void visitMemberReference(MemberReferenceTree tree, Void none) {
        fault(tree, "a method reference");
        return super.visitMemberReference(tree, none);
    }

    @Override
    public Void visitInstanceOf(InstanceOfTree tree, Void none) {
        fault(tree, "instanceof, which nothing here needs");
        return super.visitInstanceOf(tree, none);
    }

    @Override
    public Void visitTypeCast(TypeCastTree tree, Void none) {
        if (tree.getType().getKind() != Tree.Kind.PRIMITIVE_TYPE) fault(tree, "a cast of an object");
        return super.visitTypeCast(tree, none);
    }

    @Override
    public Void visitBinary(BinaryTree tree, Void none) {
        boolean joins = tree.getKind() == Tree.Kind.PLUS || tree.getKind() == Tree.Kind.EQUAL_TO || tree.getKind() == Tree.Kind.NOT_EQUAL_TO;
        if (joins && (isText(tree.getLeftOperand()) || isText(tree.getRightOperand()))) fault(tree, "texts joined or compared by a sign");
        return super.visitBinary(tree, none);
    }

    private boolean isText(Tree operand) {
        return isString(trees.getTypeMirror(new TreePath(getCurrentPath(), operand)));
    }

    @Override
    public Void visitLiteral(LiteralTree tree, Void none) {
        if (tree.getValue() instanceof String text && !text.chars().allMatch(c -> c >= 1 && c <= 127)) fault(tree, "a sign beyond 127");
        return super.visitLiteral(tree, none);
    }

    // ---- rules 8, 11: how deep calls go

    private void lookAtCalls() {
        for (Element method : calls.keySet()) deepest(method, new ArrayList<>());
    }

    private void deepest(Element method, List<Element> open) {
        if (open.contains(method)) {
            faults.add("calls itself: " + open + " " + method);
            return;
        }
        open.add(method);
        if (open.size() == DEPTH + 1) faults.add("calls too deep: " + open);
        for (Element called : calls.getOrDefault(method, Set.of())) {
            if (open.size() <= DEPTH) deepest(called, open);
        }
        open.remove(open.size() - 1);
    }
}
