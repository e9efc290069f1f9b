import com.sun.source.tree.AssertTree;
import com.sun.source.tree.BinaryTree;
import com.sun.source.tree.BlockTree;
import com.sun.source.tree.ClassTree;
import com.sun.source.tree.CompilationUnitTree;
import com.sun.source.tree.CompoundAssignmentTree;
import com.sun.source.tree.DoWhileLoopTree;
import com.sun.source.tree.ExpressionTree;
import com.sun.source.tree.ForLoopTree;
import com.sun.source.tree.IdentifierTree;
import com.sun.source.tree.ImportTree;
import com.sun.source.tree.LambdaExpressionTree;
import com.sun.source.tree.MemberReferenceTree;
import com.sun.source.tree.MemberSelectTree;
import com.sun.source.tree.MethodInvocationTree;
import com.sun.source.tree.MethodTree;
import com.sun.source.tree.NewClassTree;
import com.sun.source.tree.SynchronizedTree;
import com.sun.source.tree.ThrowTree;
import com.sun.source.tree.Tree;
import com.sun.source.tree.TryTree;
import com.sun.source.tree.TypeCastTree;
import com.sun.source.tree.VariableTree;
import com.sun.source.tree.WhileLoopTree;
import com.sun.source.util.JavacTask;
import com.sun.source.util.TreePath;
import com.sun.source.util.TreePathScanner;
import com.sun.source.util.Trees;
import java.io.File;
import java.io.IOException;
import java.util.HashMap;
import java.util.HashSet;
import java.util.List;
import java.util.Map;
import java.util.Set;
import javax.lang.model.element.Element;
import javax.lang.model.element.ElementKind;
import javax.lang.model.element.ExecutableElement;
import javax.lang.model.element.Modifier;
import javax.lang.model.element.VariableElement;
import javax.lang.model.type.ArrayType;
import javax.lang.model.type.TypeKind;
import javax.lang.model.type.TypeMirror;
import javax.tools.JavaCompiler;
import javax.tools.StandardJavaFileManager;
import javax.tools.ToolProvider;

/**
 * LANGUAGE.md's rules 2 to 13, as far as the source shows them (rule 1 is FaceTest's, and what a run
 * makes is RoomTest's). Where a rule leaves a thing under conditions that cannot be seen simply (a try,
 * a recursion, a division, a while, a cast of objects), the thing itself is refused: this class has no
 * need of it. That every index is looked at first is not seen here.
 */
public final class LanguageTest extends TreePathScanner<Void, Void> {
    private static final String SOURCE = "src/main/java/SharedMemory.java";
    private static final int MOST_CLASSES = 12;
    private static final int MOST_FIELDS = 20;
    private static final int MOST_PARAMETERS = 7;
    private static final int MOST_LINES = 60;
    private static final int MOST_CALLS_DEEP = 8;

    private static final Set<String> IMPORTS = Set.of("java.util.Arrays", "java.util.ArrayList", "java.util.List",
        "java.util.Iterator", "java.util.NoSuchElementException");
    private static final Set<String> EXCEPTIONS = Set.of("IllegalStateException", "IllegalArgumentException",
        "IndexOutOfBoundsException", "ArithmeticException", "UnsupportedOperationException",
        "NoSuchElementException", "RuntimeException");
    private static final Map<String, Set<String>> LIBRARY = Map.of(
        "String", Set.of("length", "charAt", "isEmpty", "equals", "indexOf", "substring", "toCharArray", "<init>"),
        "StringBuilder", Set.of("<init>", "append", "charAt", "setCharAt", "setLength", "deleteCharAt", "reverse",
            "length", "toString"),
        "ArrayList", Set.of("<init>", "add", "get", "set", "remove", "size", "isEmpty", "clear"),
        "List", Set.of("add", "get", "set", "remove", "size", "isEmpty", "clear", "of"),
        "System", Set.of("arraycopy"),
        "Arrays", Set.of("copyOf", "copyOfRange", "fill"),
        "Array", Set.of("clone"),
        "Object", Set.of("<init>"));
    private static final Set<String> NUMBERS = Set.of("Integer", "Long", "Math");
    private static final Set<String> TYPES = Set.of("String", "StringBuilder", "Integer", "ArrayList", "List");
    private static final Set<TypeKind> CONSTANTS = Set.of(TypeKind.INT, TypeKind.LONG, TypeKind.BOOLEAN,
        TypeKind.CHAR);
    private static final Set<TypeKind> CONSTANT_ROWS = Set.of(TypeKind.INT, TypeKind.LONG, TypeKind.CHAR,
        TypeKind.BYTE);

    private static final Set<Tree.Kind> DIVISIONS = Set.of(Tree.Kind.DIVIDE, Tree.Kind.REMAINDER,
        Tree.Kind.DIVIDE_ASSIGNMENT, Tree.Kind.REMAINDER_ASSIGNMENT);
    private static final Set<String> OF_EVERY_OBJECT = Set.of("equals", "hashCode", "toString");

    private final Trees trees;
    private final CompilationUnitTree unit;
    private final Map<Element, Set<Element>> calls = new HashMap<>();
    private final Set<Element> callsTheLibrary = new HashSet<>();
    private int classes = 0;

    private LanguageTest(Trees trees, CompilationUnitTree unit) {
        this.trees = trees;
        this.unit = unit;
    }

    public static void main(String[] args) throws IOException {
        JavaCompiler compiler = ToolProvider.getSystemJavaCompiler();
        try (StandardJavaFileManager files = compiler.getStandardFileManager(null, null, null)) {
            JavacTask task = (JavacTask) compiler.getTask(null, files, null, List.of("--release", "17"), null,
                files.getJavaFileObjects(new File(SOURCE)));
            CompilationUnitTree unit = task.parse().iterator().next();
            task.analyze();
            LanguageTest test = new LanguageTest(Trees.instance(task), unit);
            Check.same("top classes of the file", unit.getTypeDecls().size(), 1);
            Check.isTrue("the file has no package line", unit.getPackageName() == null);
            test.scan(unit, null);
            test.checkCalls();
        }
        Check.end();
    }

    private void keeps(int rule, String what, Tree at, boolean holds) {
        long line = unit.getLineMap().getLineNumber(start(at));
        Check.isTrue("rule " + rule + ", line " + line + ", " + what, holds);
    }

    private long start(Tree tree) {
        return trees.getSourcePositions().getStartPosition(unit, tree);
    }

    private long linesOf(Tree tree) {
        long end = trees.getSourcePositions().getEndPosition(unit, tree);
        return unit.getLineMap().getLineNumber(end) - unit.getLineMap().getLineNumber(start(tree)) + 1;
    }

    private Element here() {
        return trees.getElement(getCurrentPath());
    }

    private TypeMirror typeOf(Tree tree) {
        return trees.getTypeMirror(new TreePath(getCurrentPath(), tree));
    }

    /** The method or constructor that the path goes through last; null in the first value of a field. */
    private ExecutableElement method() {
        for (TreePath p = getCurrentPath(); p != null; p = p.getParentPath()) {
            if (p.getLeaf() instanceof MethodTree) {
                return (ExecutableElement) trees.getElement(p);
            }
        }
        return null;
    }

    private static boolean isOwn(Element e) {
        for (Element at = e; at != null; at = at.getEnclosingElement()) {
            if (at.getKind().isClass() && at.getSimpleName().contentEquals("SharedMemory")) {
                return true;
            }
        }
        return false;
    }

    private static boolean isOwn(TypeMirror t) {
        return t.toString().startsWith("SharedMemory");
    }

    private static String simpleName(TypeMirror t) {
        String name = t.toString().replaceAll("<.*", "");
        return name.substring(name.lastIndexOf('.') + 1);
    }

    private static boolean isLeft(TypeMirror t) {
        if (t.getKind() == TypeKind.ARRAY) {
            TypeMirror part = ((ArrayType) t).getComponentType();
            boolean ofRows = part.getKind() == TypeKind.ARRAY;
            TypeMirror last = ofRows ? ((ArrayType) part).getComponentType() : part;
            return last.getKind().isPrimitive() || !ofRows && isOwn(last);
        }
        return t.getKind().isPrimitive() || t.getKind() == TypeKind.VOID || isOwn(t)
            || t.getKind() == TypeKind.DECLARED && TYPES.contains(simpleName(t));
    }

    @Override
    public Void visitImport(ImportTree node, Void v) {
        keeps(4, "import " + node.getQualifiedIdentifier(), node,
            !node.isStatic() && IMPORTS.contains(node.getQualifiedIdentifier().toString()));
        return null;
    }

    @Override
    public Void visitClass(ClassTree node, Void v) {
        classes++;
        keeps(11, "classes in the file", node, classes <= MOST_CLASSES);
        keeps(2, "no class inside a method", node, method() == null);
        long fields = node.getMembers().stream().filter(m -> m instanceof VariableTree
            && !((VariableTree) m).getModifiers().getFlags().contains(Modifier.STATIC)).count();
        keeps(11, "fields of a class: " + fields, node, fields <= MOST_FIELDS);
        return super.visitClass(node, v);
    }

    @Override
    public Void visitVariable(VariableTree node, Void v) {
        VariableElement e = (VariableElement) here();
        keeps(3, "type of " + node.getName(), node, isLeft(e.asType()));
        if (e.getKind() == ElementKind.FIELD && e.getModifiers().contains(Modifier.STATIC)) {
            keeps(5, "a static field is final: " + node.getName(), node, e.getModifiers().contains(Modifier.FINAL));
            keeps(5, "type of a constant: " + node.getName(), node, isConstant(e, node));
        }
        return super.visitVariable(node, v);
    }

    private static boolean isConstant(VariableElement e, VariableTree node) {
        if (e.asType().getKind() == TypeKind.ARRAY) {
            return CONSTANT_ROWS.contains(((ArrayType) e.asType()).getComponentType().getKind())
                && node.getInitializer() != null && node.getInitializer().getKind() == Tree.Kind.NEW_ARRAY;
        }
        return e.getConstantValue() != null
            && (CONSTANTS.contains(e.asType().getKind()) || simpleName(e.asType()).equals("String"));
    }

    @Override
    public Void visitBlock(BlockTree node, Void v) {
        keeps(5, "no static block", node, !node.isStatic());
        return super.visitBlock(node, v);
    }

    @Override
    public Void visitMethod(MethodTree node, Void v) {
        ExecutableElement e = (ExecutableElement) here();
        calls.putIfAbsent(e, new HashSet<>());
        keeps(3, "type that " + node.getName() + " answers", node, isLeft(e.getReturnType()));
        keeps(11, "parameters of " + node.getName(), node, node.getParameters().size() <= MOST_PARAMETERS);
        keeps(11, "lines of " + node.getName(), node, linesOf(node) <= MOST_LINES);
        keeps(6, "no synchronized", node, !e.getModifiers().contains(Modifier.SYNCHRONIZED));
        keeps(6, "no " + node.getName() + " of its own", node, !OF_EVERY_OBJECT.contains(node.getName().toString()));
        keeps(4, "no native", node, !e.getModifiers().contains(Modifier.NATIVE));
        return super.visitMethod(node, v);
    }

    @Override
    public Void visitMethodInvocation(MethodInvocationTree node, Void v) {
        noteCall(node, node.toString());
        return super.visitMethodInvocation(node, v);
    }

    @Override
    public Void visitNewClass(NewClassTree node, Void v) {
        boolean thrown = getCurrentPath().getParentPath().getLeaf() instanceof ThrowTree;
        if (!thrown) {
            noteCall(node, node.toString());
        }
        return super.visitNewClass(node, v);
    }

    private void noteCall(Tree node, String text) {
        ExecutableElement called = (ExecutableElement) here();
        ExecutableElement from = method();
        if (isOwn(called)) {
            calls.computeIfAbsent(from, k -> new HashSet<>()).add(called);
            keeps(12, "a constructor calls no method: " + text, node, called.getKind() != ElementKind.METHOD
                || from == null || from.getKind() != ElementKind.CONSTRUCTOR);
            return;
        }
        callsTheLibrary.add(from);
        keeps(4, "the library has " + text, node, isInLibrary(called));
    }

    private static boolean isInLibrary(ExecutableElement called) {
        String owner = called.getEnclosingElement().getSimpleName().toString();
        String name = called.getSimpleName().toString();
        if (!NUMBERS.contains(owner)) {
            return LIBRARY.getOrDefault(owner, Set.of()).contains(name);
        }
        return called.getModifiers().contains(Modifier.STATIC) && !name.endsWith("Exact")
            && isWhole(called.getReturnType()) && called.getParameters().stream().allMatch(p -> isWhole(p.asType()));
    }

    private static boolean isWhole(TypeMirror t) {
        return t.getKind() == TypeKind.INT || t.getKind() == TypeKind.LONG || t.getKind() == TypeKind.BOOLEAN;
    }

    @Override
    public Void visitIdentifier(IdentifierTree node, Void v) {
        checkField(node);
        return super.visitIdentifier(node, v);
    }

    @Override
    public Void visitMemberSelect(MemberSelectTree node, Void v) {
        checkField(node);
        return super.visitMemberSelect(node, v);
    }

    private void checkField(ExpressionTree node) {
        Element e = here();
        if (e != null && e.getKind() == ElementKind.FIELD && !isOwn(e)) {
            String owner = e.getEnclosingElement().getSimpleName().toString();
            boolean length = e.getSimpleName().contentEquals("length");
            keeps(4, "the library has " + node, node, length || owner.equals("Integer") || owner.equals("Long"));
        }
    }

    @Override
    public Void visitThrow(ThrowTree node, Void v) {
        keeps(6, "no throw in a constructor", node, method() != null && method().getKind() == ElementKind.METHOD);
        boolean made = node.getExpression() instanceof NewClassTree;
        keeps(6, "throw new", node, made);
        if (made) {
            NewClassTree thrown = (NewClassTree) node.getExpression();
            keeps(6, "one of the seven: " + thrown, node, EXCEPTIONS.contains(thrown.getIdentifier().toString())
                && !isOwn(typeOf(thrown)));
            keeps(6, "a written text or none: " + thrown, node, thrown.getArguments().isEmpty()
                || thrown.getArguments().size() == 1
                && thrown.getArguments().get(0).getKind() == Tree.Kind.STRING_LITERAL);
        }
        return super.visitThrow(node, v);
    }

    @Override
    public Void visitTry(TryTree node, Void v) {
        keeps(6, "no try", node, false);
        return super.visitTry(node, v);
    }

    @Override
    public Void visitTypeCast(TypeCastTree node, Void v) {
        keeps(6, "no cast of objects", node, typeOf(node.getType()).getKind().isPrimitive());
        return super.visitTypeCast(node, v);
    }

    @Override
    public Void visitBinary(BinaryTree node, Void v) {
        checkArithmetic(node);
        return super.visitBinary(node, v);
    }

    @Override
    public Void visitCompoundAssignment(CompoundAssignmentTree node, Void v) {
        checkArithmetic(node);
        return super.visitCompoundAssignment(node, v);
    }

    private void checkArithmetic(Tree node) {
        TypeMirror type = trees.getTypeMirror(getCurrentPath());
        keeps(10, "texts are not joined by +", node, !simpleName(type).equals("String"));
        keeps(7, "no division", node, !DIVISIONS.contains(node.getKind()));
    }

    @Override
    public Void visitForLoop(ForLoopTree node, Void v) {
        keeps(9, "a for has an end", node, node.getCondition() != null);
        return super.visitForLoop(node, v);
    }

    @Override
    public Void visitWhileLoop(WhileLoopTree node, Void v) {
        keeps(9, "no while, whose end is seen less well than a for's", node, false);
        return super.visitWhileLoop(node, v);
    }

    @Override
    public Void visitDoWhileLoop(DoWhileLoopTree node, Void v) {
        keeps(9, "no do, whose end is seen less well than a for's", node, false);
        return super.visitDoWhileLoop(node, v);
    }

    @Override
    public Void visitLambdaExpression(LambdaExpressionTree node, Void v) {
        keeps(2, "no lambda", node, false);
        return null;
    }

    @Override
    public Void visitMemberReference(MemberReferenceTree node, Void v) {
        keeps(2, "no method reference", node, false);
        return null;
    }

    @Override
    public Void visitSynchronized(SynchronizedTree node, Void v) {
        keeps(6, "no synchronized", node, false);
        return super.visitSynchronized(node, v);
    }

    @Override
    public Void visitAssert(AssertTree node, Void v) {
        keeps(6, "no assert", node, false);
        return super.visitAssert(node, v);
    }

    private void checkCalls() {
        for (Element e : calls.keySet()) {
            int deep = depth(e, 1);
            Check.isTrue("rules 8 and 11, calls from " + e + " go " + deep + " deep", deep <= MOST_CALLS_DEEP);
        }
    }

    /** A recursion shows as a depth beyond the most. */
    private int depth(Element e, int level) {
        if (level > MOST_CALLS_DEEP) {
            return level;
        }
        int most = callsTheLibrary.contains(e) ? level + 1 : level;
        for (Element called : calls.getOrDefault(e, Set.of())) {
            most = Math.max(most, depth(called, level + 1));
        }
        return most;
    }
}
