import com.sun.source.tree.AssertTree;
import com.sun.source.tree.BinaryTree;
import com.sun.source.tree.BlockTree;
import com.sun.source.tree.CatchTree;
import com.sun.source.tree.ClassTree;
import com.sun.source.tree.CompilationUnitTree;
import com.sun.source.tree.ConditionalExpressionTree;
import com.sun.source.tree.DoWhileLoopTree;
import com.sun.source.tree.EnhancedForLoopTree;
import com.sun.source.tree.ExpressionTree;
import com.sun.source.tree.ForLoopTree;
import com.sun.source.tree.ImportTree;
import com.sun.source.tree.LambdaExpressionTree;
import com.sun.source.tree.LiteralTree;
import com.sun.source.tree.MemberReferenceTree;
import com.sun.source.tree.MethodInvocationTree;
import com.sun.source.tree.MethodTree;
import com.sun.source.tree.NewArrayTree;
import com.sun.source.tree.NewClassTree;
import com.sun.source.tree.PackageTree;
import com.sun.source.tree.SwitchExpressionTree;
import com.sun.source.tree.SynchronizedTree;
import com.sun.source.tree.ThrowTree;
import com.sun.source.tree.Tree;
import com.sun.source.tree.TryTree;
import com.sun.source.tree.TypeCastTree;
import com.sun.source.tree.VariableTree;
import com.sun.source.tree.WhileLoopTree;
import com.sun.source.util.JavacTask;
import com.sun.source.util.TreePath;
import com.sun.source.util.TreePathScanner;
import com.sun.source.util.Trees;
import java.io.IOException;
import java.nio.file.Path;
import java.util.ArrayList;
import java.util.HashMap;
import java.util.LinkedHashMap;
import java.util.LinkedHashSet;
import java.util.List;
import java.util.Map;
import java.util.Set;
import java.util.TreeSet;
import java.util.function.BiConsumer;
import javax.lang.model.element.Element;
import javax.lang.model.element.ElementKind;
import javax.lang.model.element.ExecutableElement;
import javax.lang.model.element.Modifier;
import javax.lang.model.element.TypeElement;
import javax.lang.model.type.ArrayType;
import javax.lang.model.type.TypeKind;
import javax.lang.model.type.TypeMirror;
import javax.tools.JavaCompiler;
import javax.tools.StandardJavaFileManager;
import javax.tools.ToolProvider;

/** The class's syntax tree, looked through for what the rules of LANGUAGE.md leave out. */
final class Syntax extends TreePathScanner<Void, Void> {
    private static final int PARAMETERS = 7;
    private static final int LINES_OF_A_METHOD = 60;
    private static final int CALLS_DEEP = 8;
    private static final int CLASSES = 12;
    private static final int FIELDS = 20;

    /** Rule 4, as far as the class needs it. */
    private static final Set<String> LIBRARY = Set.of("java.lang.String.length", "java.lang.String.charAt",
            "java.lang.Math.min", "java.lang.Math.max", "java.lang.Integer.bitCount", "java.lang.System.arraycopy",
            "java.lang.Object.<init>");
    private static final Set<TypeKind> CONSTANTS = Set.of(TypeKind.INT, TypeKind.LONG, TypeKind.BOOLEAN, TypeKind.CHAR);
    private static final Set<TypeKind> ROWS = Set.of(TypeKind.INT, TypeKind.LONG, TypeKind.CHAR, TypeKind.BYTE);
    private static final Set<Tree.Kind> COMPARING = Set.of(Tree.Kind.LESS_THAN, Tree.Kind.LESS_THAN_EQUAL,
            Tree.Kind.GREATER_THAN, Tree.Kind.GREATER_THAN_EQUAL);

    private final BiConsumer<Integer, String> complain;
    private final Trees trees;
    private final CompilationUnitTree unit;
    private final Map<String, Set<String>> calls = new LinkedHashMap<>();
    private final Map<String, Integer> depths = new HashMap<>();
    private final Set<String> publicNames = new TreeSet<>();
    private final Set<String> otherNames = new TreeSet<>();
    private int classes = 0;
    private int loops = 0;
    private String caller = "";

    private Syntax(Trees trees, CompilationUnitTree unit, BiConsumer<Integer, String> complain) {
        this.trees = trees;
        this.unit = unit;
        this.complain = complain;
    }

    /** Tells each place that is outside the rules: the rule's number, and what is there. */
    static void look(Path source, BiConsumer<Integer, String> complain) throws IOException {
        JavaCompiler compiler = ToolProvider.getSystemJavaCompiler();
        try (StandardJavaFileManager files = compiler.getStandardFileManager(null, null, null)) {
            JavacTask task = (JavacTask) compiler.getTask(null, files, null, List.of("-proc:none"), null,
                    files.getJavaFileObjects(source));
            CompilationUnitTree unit = task.parse().iterator().next();
            task.analyze();
            Syntax syntax = new Syntax(Trees.instance(task), unit, complain);
            syntax.scan(new TreePath(unit), null);
            syntax.lookAtWhole();
        }
    }

    private void out(int rule, Tree tree, String what) {
        long place = trees.getSourcePositions().getStartPosition(unit, tree);
        complain.accept(rule, what + ", line " + unit.getLineMap().getLineNumber(place));
    }

    private void lookAtWhole() {
        if (classes > CLASSES) {
            complain.accept(11, classes + " classes");
        }
        otherNames.retainAll(publicNames);
        if (!otherNames.isEmpty()) {
            complain.accept(1, "methods inside that bear a public one's name: " + otherNames);
        }
        for (String method : new ArrayList<>(calls.keySet())) {
            int depth = depth(method, new LinkedHashSet<>());
            if (depth > CALLS_DEEP) {
                complain.accept(11, method + " goes " + depth + " deep");
            }
        }
    }

    /** How many calls stand open at once, the method's own and the library's counted. */
    private int depth(String method, Set<String> open) {
        if (!open.add(method)) {
            complain.accept(8, "recursion: " + open);
            return 0;
        }
        Integer known = depths.get(method);
        int deepest = 0;
        for (String called : known == null ? calls.getOrDefault(method, Set.of()) : Set.<String>of()) {
            deepest = Math.max(deepest, depth(called, open));
        }
        open.remove(method);
        depths.put(method, known == null ? deepest + 1 : known);
        return depths.get(method);
    }

    // ---- classes and members (rules 1, 2, 5, 6, 11)

    @Override
    public Void visitClass(ClassTree tree, Void p) {
        classes++;
        TypeElement type = (TypeElement) trees.getElement(getCurrentPath());
        boolean outer = type.getEnclosingElement().getKind() == ElementKind.PACKAGE;
        Set<Modifier> modifiers = type.getModifiers();
        if (outer && !modifiers.equals(Set.of(Modifier.PUBLIC, Modifier.FINAL))) {
            out(1, tree, "the class is " + modifiers);
        }
        if (!outer && (!modifiers.contains(Modifier.STATIC) || modifiers.contains(Modifier.PUBLIC)
                || modifiers.contains(Modifier.PROTECTED) || !type.getNestingKind().isNested())) {
            out(2, tree, "a class inside is " + modifiers);
        }
        if (!outer && type.getNestingKind() != javax.lang.model.element.NestingKind.MEMBER) {
            out(2, tree, "a local or anonymous class");
        }
        int fields = 0;
        String before = caller;
        for (Tree member : tree.getMembers()) {
            if (member instanceof BlockTree) {
                out(5, member, "an initialiser block");
            }
            if (member instanceof VariableTree) {
                Element field = trees.getElement(new TreePath(getCurrentPath(), member));
                fields += field.getModifiers().contains(Modifier.STATIC) ? 0 : 1;
                lookAtField(member, field, outer);
            }
        }
        if (fields > FIELDS) {
            out(11, tree, fields + " fields");
        }
        caller = type.getSimpleName() + ".<init>";
        calls.putIfAbsent(caller, new LinkedHashSet<>());
        super.visitClass(tree, p);
        caller = before;
        return null;
    }

    private void lookAtField(Tree tree, Element field, boolean outer) {
        Set<Modifier> modifiers = field.getModifiers();
        boolean face = field.getSimpleName().contentEquals("NONE");
        if (outer && !face && !modifiers.contains(Modifier.PRIVATE)) {
            out(1, tree, "a field that is not private: " + field);
        }
        if (!modifiers.contains(Modifier.STATIC)) {
            return;
        }
        TypeMirror type = field.asType();
        boolean row = type instanceof ArrayType && ROWS.contains(((ArrayType) type).getComponentType().getKind());
        boolean constant = CONSTANTS.contains(type.getKind()) || type.toString().equals("java.lang.String");
        if (!modifiers.contains(Modifier.FINAL) || !row && !constant) {
            out(5, tree, "a static field: " + field);
        }
    }

    @Override
    public Void visitMethod(MethodTree tree, Void p) {
        ExecutableElement method = (ExecutableElement) trees.getElement(getCurrentPath());
        String before = caller;
        caller = nameOf(method);
        calls.putIfAbsent(caller, new LinkedHashSet<>());
        lookAtNames(tree, method);
        if (tree.getParameters().size() > PARAMETERS) {
            out(11, tree, caller + " takes " + tree.getParameters().size() + " parameters");
        }
        if (!tree.getThrows().isEmpty()) {
            out(6, tree, caller + " throws");
        }
        long start = unit.getLineMap().getLineNumber(trees.getSourcePositions().getStartPosition(unit, tree));
        long end = unit.getLineMap().getLineNumber(Math.max(0, trees.getSourcePositions().getEndPosition(unit, tree)));
        if (end - start >= LINES_OF_A_METHOD) {
            out(11, tree, caller + " has " + (end - start + 1) + " lines");
        }
        super.visitMethod(tree, p);
        caller = before;
        return null;
    }

    private void lookAtNames(Tree tree, ExecutableElement method) {
        String name = method.getSimpleName().toString();
        boolean outer = method.getEnclosingElement().getSimpleName().contentEquals("SaysBath");
        boolean face = outer && method.getModifiers().contains(Modifier.PUBLIC);
        if (outer && !face && !method.getModifiers().contains(Modifier.PRIVATE)) {
            out(1, tree, "a method that is not private: " + name);
        }
        if (Set.of("equals", "hashCode", "toString", "finalize", "clone").contains(name)) {
            out(6, tree, "its own " + name);
        }
        if (method.getKind() == ElementKind.METHOD) {
            (face ? publicNames : otherNames).add(name);
        }
    }

    // ---- types and the library (rules 3, 4, 12, 13)

    @Override
    public Void visitVariable(VariableTree tree, Void p) {
        lookAtType(tree, trees.getElement(getCurrentPath()).asType());
        return super.visitVariable(tree, p);
    }

    private void lookAtType(Tree tree, TypeMirror type) {
        TypeMirror base = type;
        int dimensions = 0;
        for (; base instanceof ArrayType; dimensions++) {
            base = ((ArrayType) base).getComponentType();
        }
        boolean own = base.toString().startsWith("SaysBath");
        boolean numbers = base.getKind().isPrimitive();
        boolean real = base.getKind() == TypeKind.DOUBLE || base.getKind() == TypeKind.FLOAT;
        boolean text = base.toString().equals("java.lang.String") && dimensions == 0;
        if (real || !own && !numbers && !text || dimensions > (numbers ? 2 : 1)) {
            out(3, tree, "the type " + type);
        }
    }

    @Override
    public Void visitMethodInvocation(MethodInvocationTree tree, Void p) {
        called(tree, (ExecutableElement) trees.getElement(getCurrentPath()));
        return super.visitMethodInvocation(tree, p);
    }

    private void called(Tree tree, ExecutableElement method) {
        TypeElement owner = (TypeElement) method.getEnclosingElement();
        if (owner.getQualifiedName().toString().startsWith("SaysBath")) {
            calls.get(caller).add(nameOf(method));
            boolean open = !owner.getModifiers().contains(Modifier.FINAL) && !method.getModifiers().contains(Modifier.PRIVATE);
            if (caller.endsWith("<init>") && open && !method.getModifiers().contains(Modifier.STATIC)) {
                out(12, tree, "a constructor calls " + method + ", which may be overridden");
            }
            return;
        }
        String name = owner.getQualifiedName() + "." + method.getSimpleName();
        // Each constructor begins with Object's, which is no call of its own.
        if (!name.equals("java.lang.Object.<init>")) {
            calls.get(caller).add(name);
        }
        if (!LIBRARY.contains(name)) {
            out(4, tree, name);
        }
    }

    private static String nameOf(ExecutableElement method) {
        return method.getEnclosingElement().getSimpleName() + "." + method.getSimpleName();
    }

    @Override
    public Void visitNewClass(NewClassTree tree, Void p) {
        if (tree.getClassBody() != null) {
            out(2, tree, "an anonymous class");
        }
        called(tree, (ExecutableElement) trees.getElement(getCurrentPath()));
        lookAtMaking(tree);
        return super.visitNewClass(tree, p);
    }

    @Override
    public Void visitNewArray(NewArrayTree tree, Void p) {
        lookAtMaking(tree);
        return super.visitNewArray(tree, p);
    }

    /** Our own rule, for the room: objects are made by constructors, and by keep() once for an IMAGE. */
    private void lookAtMaking(Tree tree) {
        if (!caller.endsWith("<init>") && !caller.equals("SaysBath.keep")) {
            out(12, tree, caller + " makes an object");
        }
        if (loops > 0 && !caller.equals("SaysBath.<init>")) {
            out(12, tree, caller + " makes objects in a loop");
        }
    }

    @Override
    public Void visitTypeCast(TypeCastTree tree, Void p) {
        if (!trees.getTypeMirror(new TreePath(getCurrentPath(), tree.getType())).getKind().isPrimitive()) {
            out(6, tree, "a cast to a class");
        }
        return super.visitTypeCast(tree, p);
    }

    @Override
    public Void visitLiteral(LiteralTree tree, Void p) {
        if (tree.getKind() == Tree.Kind.STRING_LITERAL) {
            for (char sign : ((String) tree.getValue()).toCharArray()) {
                if (sign < 1 || sign > 127) {
                    out(4, tree, "the sign " + (int) sign);
                }
            }
        }
        return super.visitLiteral(tree, p);
    }

    // ---- operators (rules 6, 7, 10)

    @Override
    public Void visitBinary(BinaryTree tree, Void p) {
        TypeMirror left = typeOf(tree.getLeftOperand());
        TypeMirror right = typeOf(tree.getRightOperand());
        boolean like = tree.getKind() == Tree.Kind.EQUAL_TO || tree.getKind() == Tree.Kind.NOT_EQUAL_TO;
        if (like && left.toString().startsWith("java.lang.") && right.toString().startsWith("java.lang.")) {
            out(6, tree, "== between two texts");
        }
        if (tree.getKind() == Tree.Kind.PLUS && (left.toString() + right).contains("java.lang.String")) {
            out(10, tree, "texts joined by +");
        }
        boolean divides = tree.getKind() == Tree.Kind.DIVIDE || tree.getKind() == Tree.Kind.REMAINDER;
        if (divides && !isSafeDivisor(tree.getRightOperand())) {
            out(7, tree, "a divisor that is not looked at: " + tree);
        }
        return super.visitBinary(tree, p);
    }

    private TypeMirror typeOf(ExpressionTree tree) {
        return trees.getTypeMirror(new TreePath(getCurrentPath(), tree));
    }

    /** A number other than 0, a counter from 0 on and 1, or a name that an if or a loop around holds against 0. */
    private boolean isSafeDivisor(ExpressionTree divisor) {
        String text = divisor.toString();
        if (text.matches("[1-9]\\d*L?|\\(\\w+ \\+ 1\\)")) {
            return true;
        }
        for (TreePath path = getCurrentPath(); path != null; path = path.getParentPath()) {
            if (path.getLeaf() instanceof ForLoopTree && ((ForLoopTree) path.getLeaf()).getCondition() != null
                    && ((ForLoopTree) path.getLeaf()).getCondition().toString().contains(text + " != 0")) {
                return true;
            }
            if (path.getLeaf() instanceof MethodTree) {
                return path.getLeaf().toString().replaceAll("\\s+", " ").contains("if (" + text + " == 0) { return ");
            }
        }
        return false;
    }

    // ---- loops (rule 9)

    @Override
    public Void visitForLoop(ForLoopTree tree, Void p) {
        if (tree.getCondition() == null || !compares(tree.getCondition()) || tree.getUpdate().size() != 1) {
            out(9, tree, "a loop whose end can't be seen");
        }
        loops++;
        super.visitForLoop(tree, p);
        loops--;
        return null;
    }

    @Override
    public Void visitWhileLoop(WhileLoopTree tree, Void p) {
        if (!compares(tree.getCondition())) {
            out(9, tree, "a loop whose end can't be seen");
        }
        loops++;
        super.visitWhileLoop(tree, p);
        loops--;
        return null;
    }

    @Override
    public Void visitDoWhileLoop(DoWhileLoopTree tree, Void p) {
        out(9, tree, "a do loop");
        return super.visitDoWhileLoop(tree, p);
    }

    @Override
    public Void visitEnhancedForLoop(EnhancedForLoopTree tree, Void p) {
        loops++;
        super.visitEnhancedForLoop(tree, p);
        loops--;
        return null;
    }

    /** Whether a counter is held against a bound in each case in which the loop goes on. */
    private static boolean compares(Tree condition) {
        if (condition instanceof com.sun.source.tree.ParenthesizedTree) {
            return compares(((com.sun.source.tree.ParenthesizedTree) condition).getExpression());
        }
        if (condition.getKind() == Tree.Kind.CONDITIONAL_AND) {
            BinaryTree both = (BinaryTree) condition;
            return compares(both.getLeftOperand()) || compares(both.getRightOperand());
        }
        return COMPARING.contains(condition.getKind());
    }

    // ---- what is out altogether (rules 2, 6, and one file without a package)

    @Override
    public Void visitThrow(ThrowTree tree, Void p) {
        out(6, tree, "throw");
        return super.visitThrow(tree, p);
    }

    @Override
    public Void visitTry(TryTree tree, Void p) {
        out(6, tree, "try");
        return super.visitTry(tree, p);
    }

    @Override
    public Void visitCatch(CatchTree tree, Void p) {
        out(6, tree, "catch");
        return super.visitCatch(tree, p);
    }

    @Override
    public Void visitSynchronized(SynchronizedTree tree, Void p) {
        out(6, tree, "synchronized");
        return super.visitSynchronized(tree, p);
    }

    @Override
    public Void visitAssert(AssertTree tree, Void p) {
        out(6, tree, "assert");
        return super.visitAssert(tree, p);
    }

    @Override
    public Void visitSwitchExpression(SwitchExpressionTree tree, Void p) {
        out(6, tree, "switch as an expression");
        return super.visitSwitchExpression(tree, p);
    }

    @Override
    public Void visitLambdaExpression(LambdaExpressionTree tree, Void p) {
        out(2, tree, "a lambda");
        return super.visitLambdaExpression(tree, p);
    }

    @Override
    public Void visitMemberReference(MemberReferenceTree tree, Void p) {
        out(2, tree, "a method reference");
        return super.visitMemberReference(tree, p);
    }

    @Override
    public Void visitImport(ImportTree tree, Void p) {
        out(4, tree, "an import");
        return super.visitImport(tree, p);
    }

    @Override
    public Void visitPackage(PackageTree tree, Void p) {
        out(1, tree, "a package");
        return super.visitPackage(tree, p);
    }

    @Override
    public Void visitConditionalExpression(ConditionalExpressionTree tree, Void p) {
        TypeMirror type = trees.getTypeMirror(getCurrentPath());
        if (type.getKind() == TypeKind.DECLARED && type.toString().startsWith("java.lang.")
                && !type.toString().equals("java.lang.String")) {
            out(3, tree, "the type " + type);
        }
        return super.visitConditionalExpression(tree, p);
    }
}
