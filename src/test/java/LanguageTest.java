import com.sun.source.tree.AnnotationTree;
import com.sun.source.tree.ArrayAccessTree;
import com.sun.source.tree.ArrayTypeTree;
import com.sun.source.tree.AssertTree;
import com.sun.source.tree.AssignmentTree;
import com.sun.source.tree.BinaryTree;
import com.sun.source.tree.ClassTree;
import com.sun.source.tree.CompilationUnitTree;
import com.sun.source.tree.CompoundAssignmentTree;
import com.sun.source.tree.DoWhileLoopTree;
import com.sun.source.tree.ExpressionTree;
import com.sun.source.tree.ForLoopTree;
import com.sun.source.tree.ImportTree;
import com.sun.source.tree.InstanceOfTree;
import com.sun.source.tree.LambdaExpressionTree;
import com.sun.source.tree.MemberReferenceTree;
import com.sun.source.tree.MethodInvocationTree;
import com.sun.source.tree.MethodTree;
import com.sun.source.tree.NewArrayTree;
import com.sun.source.tree.NewClassTree;
import com.sun.source.tree.SynchronizedTree;
import com.sun.source.tree.ThrowTree;
import com.sun.source.tree.Tree;
import com.sun.source.tree.TryTree;
import com.sun.source.tree.TypeCastTree;
import com.sun.source.tree.UnaryTree;
import com.sun.source.tree.VariableTree;
import com.sun.source.tree.WhileLoopTree;
import com.sun.source.util.JavacTask;
import com.sun.source.util.TreePath;
import com.sun.source.util.TreePathScanner;
import com.sun.source.util.Trees;
import java.io.IOException;
import java.nio.file.Path;
import java.util.ArrayList;
import java.util.LinkedHashMap;
import java.util.LinkedHashSet;
import java.util.List;
import java.util.Map;
import java.util.Set;
import javax.lang.model.element.Element;
import javax.lang.model.element.ElementKind;
import javax.lang.model.element.Modifier;
import javax.lang.model.type.ArrayType;
import javax.lang.model.type.TypeKind;
import javax.lang.model.type.TypeMirror;
import javax.tools.JavaCompiler;
import javax.tools.StandardJavaFileManager;
import javax.tools.ToolProvider;

/**
 * The rules of LANGUAGE.md that can be read off the program's own trees, by their numbers. Where the class does with
 * less than a rule leaves (no recursion, no while, no object made by a call), the lesser is what is looked at.
 */
public final class LanguageTest extends TreePathScanner<Void, Void> {
    private static final String MAIN = "src/main/java/AuditVault.java";
    private static final int MOST_PARAMETERS = 7, MOST_LINES = 60, MOST_DEEP = 8, MOST_CLASSES = 12, MOST_FIELDS = 20;

    private final Trees trees;
    private final CompilationUnitTree unit;
    private final Map<Element, Set<Element>> callsOf = new LinkedHashMap<>();
    private int classes = 0;

    private LanguageTest(Trees trees, CompilationUnitTree unit) {
        this.trees = trees;
        this.unit = unit;
    }

    private long lineOf(long position) {
        return unit.getLineMap().getLineNumber(position);
    }

    private long firstLineOf(Tree tree) {
        return lineOf(trees.getSourcePositions().getStartPosition(unit, tree));
    }

    private void rule(int number, Tree at, String what, boolean holds) {
        Check.holds("rule " + number + ", line " + firstLineOf(at) + ": " + what, holds);
    }

    private boolean isOwn(Element element) {
        Element outer = element;
        while (outer.getEnclosingElement() != null && outer.getEnclosingElement().getKind() != ElementKind.PACKAGE) {
            outer = outer.getEnclosingElement();
        }
        return outer.getSimpleName().contentEquals("AuditVault");
    }

    /** The method or constructor around what is looked at; null: a field's initialiser. */
    private MethodTree methodAround() {
        for (TreePath path = getCurrentPath(); path != null; path = path.getParentPath()) {
            if (path.getLeaf() instanceof MethodTree method) {
                return method;
            }
        }
        return null;
    }

    // ---- rules 1, 2 and 11: classes and methods

    @Override
    public Void visitClass(ClassTree tree, Void none) {
        classes++;
        boolean isOuter = getCurrentPath().getParentPath().getLeaf() == unit;
        boolean isInside = getCurrentPath().getParentPath().getLeaf() instanceof ClassTree;
        rule(2, tree, "a class stands in the file or in a class, none in a method", isOuter || isInside);
        if (isInside) {
            rule(2, tree, "a class inside is static", tree.getModifiers().getFlags().contains(Modifier.STATIC));
        }
        int fields = 0;
        for (Tree member : tree.getMembers()) {
            boolean isBlock = member.getKind() == Tree.Kind.BLOCK;
            rule(5, member, "no initialiser block", !isBlock);
            if (member instanceof VariableTree field && !field.getModifiers().getFlags().contains(Modifier.STATIC)) {
                fields++;
            }
        }
        rule(11, tree, "some twenty fields at most, but there are " + fields, fields <= MOST_FIELDS);
        return super.visitClass(tree, none);
    }

    @Override
    public Void visitMethod(MethodTree tree, Void none) {
        Element method = trees.getElement(getCurrentPath());
        callsOf.putIfAbsent(method, new LinkedHashSet<>());
        rule(11, tree, "seven parameters at most", tree.getParameters().size() <= MOST_PARAMETERS);
        long last = lineOf(trees.getSourcePositions().getEndPosition(unit, tree));
        rule(11, tree, "some sixty lines at most", last - firstLineOf(tree) < MOST_LINES);
        rule(6, tree, "no equals, hashCode or toString",
            !Set.of("equals", "hashCode", "toString").contains(tree.getName().toString()));
        if (tree.getReturnType() != null) {
            TypeMirror type = trees.getTypeMirror(new TreePath(getCurrentPath(), tree.getReturnType()));
            rule(3, tree, "an allowed type, not " + type, type.getKind() == TypeKind.VOID || isAllowed(type));
        }
        return super.visitMethod(tree, none);
    }

    // ---- rules 3 and 5: types and static fields

    private boolean isNumber(TypeMirror type) {
        return Set.of(TypeKind.INT, TypeKind.LONG, TypeKind.SHORT, TypeKind.BYTE, TypeKind.CHAR, TypeKind.BOOLEAN)
            .contains(type.getKind());
    }

    private boolean isAllowed(TypeMirror type) {
        if (type instanceof ArrayType array) {
            return isNumber(array.getComponentType());
        }
        return isNumber(type) || type.toString().startsWith("AuditVault");
    }

    @Override
    public Void visitVariable(VariableTree tree, Void none) {
        Element variable = trees.getElement(getCurrentPath());
        TypeMirror type = variable.asType();
        rule(3, tree, "an allowed type, not " + type, isAllowed(type));
        if (variable.getModifiers().contains(Modifier.STATIC)) {
            rule(5, tree, "a static field is final", variable.getModifiers().contains(Modifier.FINAL));
            boolean isRow = type instanceof ArrayType && tree.getInitializer() instanceof NewArrayTree row
                && row.getInitializers() != null;
            rule(5, tree, "a static field is a number, or an array written out", isNumber(type) || isRow);
        }
        return super.visitVariable(tree, none);
    }

    /** Rule 5: an array that is a constant is never changed. */
    private void isNoConstant(ExpressionTree target) {
        TreePath path = new TreePath(getCurrentPath(), target);
        if (target instanceof ArrayAccessTree access) {
            path = new TreePath(path, access.getExpression());
        }
        Element changed = trees.getElement(path);
        rule(5, target, "no constant is changed", changed == null || !changed.getModifiers().contains(Modifier.STATIC));
    }

    @Override
    public Void visitAssignment(AssignmentTree tree, Void none) {
        isNoConstant(tree.getVariable());
        return super.visitAssignment(tree, none);
    }

    @Override
    public Void visitCompoundAssignment(CompoundAssignmentTree tree, Void none) {
        isNoConstant(tree.getVariable());
        return super.visitCompoundAssignment(tree, none);
    }

    @Override
    public Void visitUnary(UnaryTree tree, Void none) {
        if (tree.getKind().name().contains("CREMENT")) {
            isNoConstant(tree.getExpression());
        }
        return super.visitUnary(tree, none);
    }

    // ---- rules 4 and 12: the library, and what is made

    @Override
    public Void visitMethodInvocation(MethodInvocationTree tree, Void none) {
        Element called = trees.getElement(getCurrentPath());
        boolean isSuper = called.getKind() == ElementKind.CONSTRUCTOR;
        String owner = called.getEnclosingElement().toString();
        boolean isListed = Set.of("java.lang.Math", "java.lang.Integer", "java.lang.Long").contains(owner)
            && !called.getSimpleName().toString().endsWith("Exact");
        rule(4, tree, "a listed call, not " + owner + "." + called, isOwn(called) || isSuper || isListed);
        addCall(called);
        return super.visitMethodInvocation(tree, none);
    }

    @Override
    public Void visitNewClass(NewClassTree tree, Void none) {
        Element made = trees.getElement(getCurrentPath());
        rule(4, tree, "an object of a class of its own", isOwn(made));
        rule(2, tree, "no anonymous class", tree.getClassBody() == null);
        madeInConstructor(tree);
        addCall(made);
        return super.visitNewClass(tree, none);
    }

    @Override
    public Void visitNewArray(NewArrayTree tree, Void none) {
        madeInConstructor(tree);
        return super.visitNewArray(tree, none);
    }

    private void madeInConstructor(Tree tree) {
        MethodTree method = methodAround();
        rule(12, tree, "made in a constructor", method == null || method.getReturnType() == null);
    }

    private void addCall(Element called) {
        MethodTree method = methodAround();
        if (method != null && isOwn(called)) {
            Element caller = trees.getElement(trees.getPath(unit, method));
            callsOf.computeIfAbsent(caller, key -> new LinkedHashSet<>()).add(called);
        }
    }

    // ---- rules 8 and 11: how deep calls go

    private int depthOf(Element method, List<Element> open) {
        if (open.contains(method)) {
            Check.holds("rule 8: no recursion, but " + method + " comes to itself by " + open, false);
            return 0;
        }
        open.add(method);
        int deepest = 0;
        for (Element called : callsOf.getOrDefault(method, Set.of())) {
            deepest = Math.max(deepest, depthOf(called, open));
        }
        open.remove(open.size() - 1);
        return deepest + 1;
    }

    private void depths() {
        for (Element method : callsOf.keySet()) {
            int depth = depthOf(method, new ArrayList<>());
            Check.holds("rule 11: " + method + " goes " + depth + " deep", depth <= MOST_DEEP);
        }
    }

    // ---- rule 9: loops

    @Override
    public Void visitForLoop(ForLoopTree tree, Void none) {
        rule(9, tree, "a loop counts one number", tree.getInitializer().size() == 1 && tree.getUpdate().size() == 1);
        ExpressionTree bound = tree.getCondition();
        while (bound instanceof BinaryTree both && both.getKind() == Tree.Kind.CONDITIONAL_AND) {
            bound = both.getLeftOperand();
        }
        boolean isBound = bound != null
            && (bound.getKind() == Tree.Kind.LESS_THAN || bound.getKind() == Tree.Kind.LESS_THAN_EQUAL);
        rule(9, tree, "a loop has a bound", isBound);
        if (isBound && tree.getInitializer().get(0) instanceof VariableTree counter) {
            String name = counter.getName().toString();
            rule(9, tree, "the counter is what is bound", ((BinaryTree) bound).getLeftOperand().toString().equals(name));
            rule(9, tree, "the counter counts", tree.getUpdate().get(0).toString().equals(name + "++;")
                || tree.getUpdate().get(0).toString().equals(name + "++"));
        }
        return super.visitForLoop(tree, none);
    }

    @Override
    public Void visitWhileLoop(WhileLoopTree tree, Void none) {
        return never(9, tree, "while");
    }

    @Override
    public Void visitDoWhileLoop(DoWhileLoopTree tree, Void none) {
        return never(9, tree, "do");
    }

    // ---- what the class does without

    private Void never(int number, Tree tree, String what) {
        rule(number, tree, "no " + what, false);
        return null;
    }

    @Override
    public Void visitLambdaExpression(LambdaExpressionTree tree, Void none) {
        return never(2, tree, "lambda");
    }

    @Override
    public Void visitMemberReference(MemberReferenceTree tree, Void none) {
        return never(2, tree, "method reference");
    }

    @Override
    public Void visitThrow(ThrowTree tree, Void none) {
        return never(6, tree, "throw");
    }

    @Override
    public Void visitTry(TryTree tree, Void none) {
        return never(6, tree, "try");
    }

    @Override
    public Void visitSynchronized(SynchronizedTree tree, Void none) {
        return never(6, tree, "synchronized");
    }

    @Override
    public Void visitAssert(AssertTree tree, Void none) {
        return never(6, tree, "assert");
    }

    @Override
    public Void visitInstanceOf(InstanceOfTree tree, Void none) {
        return never(6, tree, "instanceof: no class has a kind");
    }

    @Override
    public Void visitTypeCast(TypeCastTree tree, Void none) {
        TypeMirror type = trees.getTypeMirror(new TreePath(getCurrentPath(), tree.getType()));
        rule(6, tree, "casts of numbers alone", isNumber(type));
        return super.visitTypeCast(tree, none);
    }

    /** Rule 7: nothing divides, so that no divisor can be 0. */
    @Override
    public Void visitBinary(BinaryTree tree, Void none) {
        rule(7, tree, "nothing divides",
            tree.getKind() != Tree.Kind.DIVIDE && tree.getKind() != Tree.Kind.REMAINDER);
        return super.visitBinary(tree, none);
    }

    @Override
    public Void visitArrayType(ArrayTypeTree tree, Void none) {
        rule(3, tree, "arrays of one dimension", !(tree.getType() instanceof ArrayTypeTree));
        return super.visitArrayType(tree, none);
    }

    @Override
    public Void visitImport(ImportTree tree, Void none) {
        return never(4, tree, "import");
    }

    @Override
    public Void visitAnnotation(AnnotationTree tree, Void none) {
        return never(4, tree, "annotation");
    }

    private void file() {
        Check.holds("the file has no package line", unit.getPackageName() == null);
        Check.due("classes that stand alone in the file", unit.getTypeDecls().size(), 1);
        scan(unit, null);
        depths();
        Check.holds("rule 11: some twelve classes at most, but there are " + classes, classes <= MOST_CLASSES);
        Check.holds("the file was read", classes > 0 && callsOf.size() > 32);
    }

    public static void main(String[] args) throws IOException {
        JavaCompiler compiler = ToolProvider.getSystemJavaCompiler();
        try (StandardJavaFileManager files = compiler.getStandardFileManager(null, null, null)) {
            JavacTask task = (JavacTask) compiler.getTask(null, files, null, List.of("-proc:none"), null,
                files.getJavaFileObjects(Path.of(MAIN)));
            CompilationUnitTree unit = task.parse().iterator().next();
            task.analyze();
            new LanguageTest(Trees.instance(task), unit).file();
        }
        Check.end();
    }
}
