import com.sun.source.tree.ArrayAccessTree;
import com.sun.source.tree.AssertTree;
import com.sun.source.tree.AssignmentTree;
import com.sun.source.tree.BinaryTree;
import com.sun.source.tree.BlockTree;
import com.sun.source.tree.CaseTree;
import com.sun.source.tree.ClassTree;
import com.sun.source.tree.CompilationUnitTree;
import com.sun.source.tree.CompoundAssignmentTree;
import com.sun.source.tree.DoWhileLoopTree;
import com.sun.source.tree.EnhancedForLoopTree;
import com.sun.source.tree.ExpressionTree;
import com.sun.source.tree.ForLoopTree;
import com.sun.source.tree.ImportTree;
import com.sun.source.tree.InstanceOfTree;
import com.sun.source.tree.LambdaExpressionTree;
import com.sun.source.tree.LiteralTree;
import com.sun.source.tree.MemberReferenceTree;
import com.sun.source.tree.MethodInvocationTree;
import com.sun.source.tree.MethodTree;
import com.sun.source.tree.NewArrayTree;
import com.sun.source.tree.NewClassTree;
import com.sun.source.tree.SwitchExpressionTree;
import com.sun.source.tree.SwitchTree;
import com.sun.source.tree.SynchronizedTree;
import com.sun.source.tree.ThrowTree;
import com.sun.source.tree.Tree;
import com.sun.source.tree.TryTree;
import com.sun.source.tree.TypeCastTree;
import com.sun.source.tree.UnaryTree;
import com.sun.source.tree.VariableTree;
import com.sun.source.tree.WhileLoopTree;
import com.sun.source.util.JavacTask;
import com.sun.source.util.SourcePositions;
import com.sun.source.util.TreePath;
import com.sun.source.util.TreePathScanner;
import com.sun.source.util.Trees;
import java.io.File;
import java.io.IOException;
import java.util.Arrays;
import java.util.HashSet;
import java.util.List;
import java.util.Map;
import java.util.Set;
import java.util.TreeMap;
import java.util.TreeSet;
import javax.lang.model.element.Element;
import javax.lang.model.element.ExecutableElement;
import javax.lang.model.element.Modifier;
import javax.lang.model.type.ArrayType;
import javax.lang.model.type.TypeKind;
import javax.lang.model.type.TypeMirror;
import javax.tools.JavaCompiler;
import javax.tools.StandardJavaFileManager;
import javax.tools.ToolProvider;

/** The rules of LANGUAGE.md held against the program's tree, as the compiler reads it. Runs from the project's folder. */
public final class LanguageTest extends TreePathScanner<Void, Void> {
    private static final Set<String> OF_THE_LIBRARY = new HashSet<>(Arrays.asList(
        "String.length", "String.charAt", "String.isEmpty", "String.equals", "String.indexOf", "String.substring",
        "String.toCharArray", "StringBuilder.append", "StringBuilder.charAt", "StringBuilder.setCharAt",
        "StringBuilder.setLength", "StringBuilder.deleteCharAt", "StringBuilder.reverse", "StringBuilder.length",
        "StringBuilder.toString", "Integer.compare", "Integer.max", "Integer.min", "Integer.bitCount", "Long.compare",
        "Long.max", "Long.min", "Long.bitCount", "Math.max", "Math.min", "Math.abs", "Math.floorDiv", "Math.floorMod",
        "System.arraycopy", "Arrays.copyOf", "Arrays.copyOfRange", "Arrays.fill", "Object.<init>"));
    private static final Set<String> TYPES = new HashSet<>(Arrays.asList(
        "int", "long", "short", "byte", "char", "boolean", "void", "java.lang.String", "java.lang.StringBuilder"));
    private static final Set<String> STATIC_TYPES = new HashSet<>(Arrays.asList(
        "int", "long", "boolean", "char", "java.lang.String", "int[]", "long[]", "char[]", "byte[]"));

    private final Trees trees;
    private final CompilationUnitTree unit;
    private final SourcePositions places;
    private final Map<String, Set<String>> calls = new TreeMap<>();
    private String method = "";
    private int classes;
    private int loops;

    private LanguageTest(Trees trees, CompilationUnitTree unit) {
        this.trees = trees;
        this.unit = unit;
        places = trees.getSourcePositions();
    }

    public static void main(String[] args) throws IOException {
        Check.promise("the rules of LANGUAGE.md");
        JavaCompiler compiler = ToolProvider.getSystemJavaCompiler();
        try (StandardJavaFileManager files = compiler.getStandardFileManager(null, null, null)) {
            File file = new File(args.length > 0 ? args[0] : "src/main/java/YearAgo.java");
            JavacTask task = (JavacTask) compiler.getTask(null, files, null, List.of("-proc:none"), null, files.getJavaFileObjects(file));
            Iterable<? extends CompilationUnitTree> units = task.parse();
            task.analyze();
            for (CompilationUnitTree unit : units) {
                LanguageTest test = new LanguageTest(Trees.instance(task), unit);
                Check.due("a package line", unit.getPackageName() == null ? 0 : 1, 0);
                Check.due("types in the file", unit.getTypeDecls().size(), 1);
                test.scan(unit, null);
                test.countClasses();
                test.followCalls();
            }
        }
        Check.finish();
    }

    // ---- how it is told ----

    private void hold(String rule, Tree tree, boolean good) {
        long line = unit.getLineMap().getLineNumber(Math.max(0, places.getStartPosition(unit, tree)));
        Check.due("rule " + rule + ", line " + line, good ? 0 : 1, 0);
    }

    private TypeMirror typeOf(Tree tree) {
        return trees.getTypeMirror(new TreePath(getCurrentPath(), tree));
    }

    private static String name(TypeMirror type) {
        return type == null ? "?" : type.toString().replaceAll("<.*>", "");
    }

    private static boolean isOwn(String type) {
        return type.equals("YearAgo") || type.startsWith("YearAgo.");
    }

    private boolean isLoop() {
        return loops > 0;
    }

    // ---- classes and their members ----

    @Override
    public Void visitClass(ClassTree tree, Void none) {
        classes++;
        boolean outside = getCurrentPath().getParentPath().getLeaf() == unit;
        Tree parent = getCurrentPath().getParentPath().getLeaf();
        hold("2, a class stands in a class", tree, outside || parent instanceof ClassTree);
        hold("2, a class inside is static", tree, outside || tree.getModifiers().getFlags().contains(Modifier.STATIC));
        hold("1, a class inside is not open", tree, outside
            || !tree.getModifiers().getFlags().contains(Modifier.PUBLIC) && !tree.getModifiers().getFlags().contains(Modifier.PROTECTED));
        int fields = 0;
        for (Tree member : tree.getMembers()) {
            if (member instanceof VariableTree && !((VariableTree) member).getModifiers().getFlags().contains(Modifier.STATIC)) {
                fields++;
            }
            hold("5, no block of a class", member, !(member instanceof BlockTree));
        }
        hold("11, at most twenty fields", tree, fields <= 20);
        return super.visitClass(tree, none);
    }

    @Override
    public Void visitVariable(VariableTree tree, Void none) {
        Element element = trees.getElement(getCurrentPath());
        holdType(tree, element.asType());
        boolean field = getCurrentPath().getParentPath().getLeaf() instanceof ClassTree;
        if (field && element.getModifiers().contains(Modifier.STATIC)) {
            hold("5, a static field is final", tree, element.getModifiers().contains(Modifier.FINAL));
            hold("5, a static field's type", tree, STATIC_TYPES.contains(name(element.asType())));
            hold("5, a static field is told at once", tree, tree.getInitializer() != null);
            hold("5, a static row is written out", tree, element.asType().getKind() != TypeKind.ARRAY
                || tree.getInitializer() instanceof NewArrayTree && ((NewArrayTree) tree.getInitializer()).getInitializers() != null);
        }
        return super.visitVariable(tree, none);
    }

    private void holdType(Tree tree, TypeMirror type) {
        TypeMirror core = type;
        int deep = 0;
        while (core != null && core.getKind() == TypeKind.ARRAY) {
            core = ((ArrayType) core).getComponentType();
            deep++;
        }
        String name = name(core);
        hold("3, a type: " + type, tree, TYPES.contains(name) || isOwn(name));
        hold("3, rows of rows", tree, deep <= 1 || deep == 2 && core.getKind().isPrimitive());
    }

    @Override
    public Void visitMethod(MethodTree tree, Void none) {
        Element element = trees.getElement(getCurrentPath());
        String before = method;
        method = nameOf(element);
        calls.computeIfAbsent(method, k -> new TreeSet<>());
        hold("11, at most seven parameters", tree, tree.getParameters().size() <= 7);
        hold("11, some sixty lines", tree, lines(tree) <= 60);
        hold("6, none is thrown", tree, tree.getThrows().isEmpty());
        hold("8, one method of a name, so that calls can be followed", tree, !element.getModifiers().contains(Modifier.ABSTRACT));
        String last = method.substring(method.indexOf('.') + 1);
        hold("6, no " + last, tree, !last.equals("equals") && !last.equals("hashCode") && !last.equals("toString"));
        if (tree.getReturnType() != null) {
            holdType(tree, ((ExecutableElement) element).getReturnType());
        }
        super.visitMethod(tree, none);
        method = before;
        return null;
    }

    private long lines(Tree tree) {
        long from = unit.getLineMap().getLineNumber(Math.max(0, places.getStartPosition(unit, tree)));
        long to = unit.getLineMap().getLineNumber(Math.max(0, places.getEndPosition(unit, tree)));
        return to - from + 1;
    }

    private static String nameOf(Element method) {
        return method.getEnclosingElement().getSimpleName() + "." + method.getSimpleName();
    }

    // ---- calls ----

    @Override
    public Void visitMethodInvocation(MethodInvocationTree tree, Void none) {
        Element called = trees.getElement(getCurrentPath());
        call(tree, called);
        return super.visitMethodInvocation(tree, none);
    }

    @Override
    public Void visitNewClass(NewClassTree tree, Void none) {
        hold("2, no class without a name", tree, tree.getClassBody() == null);
        hold("12, none is made in a loop", tree, !isLoop());
        hold("4, what is made: " + name(typeOf(tree)), tree, isOwn(name(typeOf(tree))));
        call(tree, trees.getElement(getCurrentPath()));
        return super.visitNewClass(tree, none);
    }

    private void call(Tree tree, Element called) {
        String name = nameOf(called);
        boolean own = isOwn(called.getEnclosingElement().toString());
        hold("4, of the library: " + name, tree, own || OF_THE_LIBRARY.contains(name));
        if (called.getSimpleName().contentEquals("indexOf")) {
            hold("4, indexOf of a char", tree, ((MethodInvocationTree) tree).getArguments().size() == 1
                && name(typeOf(((MethodInvocationTree) tree).getArguments().get(0))).equals("char"));
        }
        calls.computeIfAbsent(method, k -> new TreeSet<>()).add(name);
    }

    @Override
    public Void visitNewArray(NewArrayTree tree, Void none) {
        hold("12, none is made in a loop", tree, !isLoop());
        return super.visitNewArray(tree, none);
    }

    @Override
    public Void visitImport(ImportTree tree, Void none) {
        hold("4, import", tree, tree.getQualifiedIdentifier().toString().matches("java\\.util\\.(Arrays|ArrayList|List)"));
        return null;
    }

    private void countClasses() {
        Check.due("rule 11, at most twelve classes, not " + classes, classes <= 12 ? 0 : 1, 0);
    }

    private void followCalls() {
        for (String first : calls.keySet()) {
            int deep = deepest(first, new HashSet<>());
            Check.due("rule 11, calls at most eight deep: " + first + " goes " + deep, deep <= 8 ? 0 : 1, 0);
        }
    }

    /** How deep calls go, the first and the library's counted; a call of an open one is recursion. */
    private int deepest(String from, Set<String> open) {
        Check.due("rule 8, " + from + " calls itself", open.contains(from) ? 1 : 0, 0);
        if (open.contains(from)) {
            return 1000;
        }
        open.add(from);
        int most = 0;
        for (String to : calls.getOrDefault(from, Set.of())) {
            most = Math.max(most, deepest(to, open));
        }
        open.remove(from);
        return most + 1;
    }

    // ---- loops ----

    @Override
    public Void visitForLoop(ForLoopTree tree, Void none) {
        hold("9, a for has a bound and a step", tree, tree.getCondition() != null && !tree.getUpdate().isEmpty());
        loops++;
        super.visitForLoop(tree, none);
        loops--;
        return null;
    }

    @Override
    public Void visitEnhancedForLoop(EnhancedForLoopTree tree, Void none) {
        hold("10, for over a row", tree, typeOf(tree.getExpression()).getKind() == TypeKind.ARRAY);
        loops++;
        super.visitEnhancedForLoop(tree, none);
        loops--;
        return null;
    }

    @Override
    public Void visitWhileLoop(WhileLoopTree tree, Void none) {
        hold("9, every loop here is a for, whose end is seen", tree, false);
        return super.visitWhileLoop(tree, none);
    }

    @Override
    public Void visitDoWhileLoop(DoWhileLoopTree tree, Void none) {
        hold("9, every loop here is a for, whose end is seen", tree, false);
        return super.visitDoWhileLoop(tree, none);
    }

    // ---- expressions ----

    @Override
    public Void visitBinary(BinaryTree tree, Void none) {
        String left = name(typeOf(tree.getLeftOperand()));
        String right = name(typeOf(tree.getRightOperand()));
        boolean texts = left.equals("java.lang.String") || right.equals("java.lang.String");
        hold("10, no text by +", tree, !(tree.getKind() == Tree.Kind.PLUS && texts));
        boolean same = tree.getKind() == Tree.Kind.EQUAL_TO || tree.getKind() == Tree.Kind.NOT_EQUAL_TO;
        hold("6, no text by ==", tree, !(same && texts));
        boolean divides = tree.getKind() == Tree.Kind.DIVIDE || tree.getKind() == Tree.Kind.REMAINDER;
        hold("7, a divisor is no 0", tree, !divides || !isZero(tree.getRightOperand()));
        return super.visitBinary(tree, none);
    }

    private static boolean isZero(ExpressionTree tree) {
        return tree instanceof LiteralTree && String.valueOf(((LiteralTree) tree).getValue()).equals("0");
    }

    @Override
    public Void visitAssignment(AssignmentTree tree, Void none) {
        holdNoStatic(tree, tree.getVariable());
        return super.visitAssignment(tree, none);
    }

    @Override
    public Void visitCompoundAssignment(CompoundAssignmentTree tree, Void none) {
        holdNoStatic(tree, tree.getVariable());
        hold("10, no text by +=", tree, !name(typeOf(tree.getVariable())).equals("java.lang.String"));
        boolean divides = tree.getKind() == Tree.Kind.DIVIDE_ASSIGNMENT || tree.getKind() == Tree.Kind.REMAINDER_ASSIGNMENT;
        hold("7, a divisor is no 0", tree, !divides || !isZero(tree.getExpression()));
        return super.visitCompoundAssignment(tree, none);
    }

    @Override
    public Void visitUnary(UnaryTree tree, Void none) {
        boolean changes = tree.getKind() == Tree.Kind.POSTFIX_INCREMENT || tree.getKind() == Tree.Kind.POSTFIX_DECREMENT
            || tree.getKind() == Tree.Kind.PREFIX_INCREMENT || tree.getKind() == Tree.Kind.PREFIX_DECREMENT;
        if (changes) {
            holdNoStatic(tree, tree.getExpression());
        }
        return super.visitUnary(tree, none);
    }

    private void holdNoStatic(Tree tree, ExpressionTree changed) {
        ExpressionTree row = changed instanceof ArrayAccessTree ? ((ArrayAccessTree) changed).getExpression() : changed;
        Element element = trees.getElement(new TreePath(getCurrentPath(), row));
        hold("5, a static row is never changed", tree, element == null || !element.getModifiers().contains(Modifier.STATIC));
    }

    @Override
    public Void visitTypeCast(TypeCastTree tree, Void none) {
        hold("6, a cast is of numbers", tree, typeOf(tree.getType()).getKind().isPrimitive());
        return super.visitTypeCast(tree, none);
    }

    @Override
    public Void visitLiteral(LiteralTree tree, Void none) {
        boolean good = !(tree.getValue() instanceof Double) && !(tree.getValue() instanceof Float);
        if (tree.getValue() instanceof String || tree.getValue() instanceof Character) {
            for (char c : tree.getValue().toString().toCharArray()) {
                good &= c >= 1 && c <= 127;
            }
        }
        hold("4, a constant", tree, good);
        return super.visitLiteral(tree, none);
    }

    // ---- what is not there at all ----

    @Override
    public Void visitSwitch(SwitchTree tree, Void none) {
        TypeMirror on = typeOf(tree.getExpression());
        hold("10, a switch is on numbers: " + on, tree, on.getKind().isPrimitive());
        boolean otherwise = false;
        for (CaseTree one : tree.getCases()) {
            otherwise |= one.getExpressions().isEmpty();
            hold("6, no arrows", one, one.getCaseKind() == CaseTree.CaseKind.STATEMENT);
        }
        hold("10, a switch answers whatever comes", tree, otherwise);
        return super.visitSwitch(tree, none);
    }

    @Override
    public Void visitSwitchExpression(SwitchExpressionTree tree, Void none) {
        hold("10, no switch as a value", tree, false);
        return null;
    }

    @Override
    public Void visitInstanceOf(InstanceOfTree tree, Void none) {
        hold("6, no instanceof is needed", tree, false);
        return null;
    }

    @Override
    public Void visitLambdaExpression(LambdaExpressionTree tree, Void none) {
        hold("2, no lambda", tree, false);
        return null;
    }

    @Override
    public Void visitMemberReference(MemberReferenceTree tree, Void none) {
        hold("2, no method reference", tree, false);
        return null;
    }

    @Override
    public Void visitThrow(ThrowTree tree, Void none) {
        hold("6, no throw", tree, false);
        return null;
    }

    @Override
    public Void visitTry(TryTree tree, Void none) {
        hold("6, no try", tree, false);
        return null;
    }

    @Override
    public Void visitSynchronized(SynchronizedTree tree, Void none) {
        hold("6, no synchronized", tree, false);
        return null;
    }

    @Override
    public Void visitAssert(AssertTree tree, Void none) {
        hold("6, no assert", tree, false);
        return null;
    }
}
