import com.sun.source.tree.AssertTree;
import com.sun.source.tree.BinaryTree;
import com.sun.source.tree.ClassTree;
import com.sun.source.tree.CompilationUnitTree;
import com.sun.source.tree.DoWhileLoopTree;
import com.sun.source.tree.ExpressionTree;
import com.sun.source.tree.ForLoopTree;
import com.sun.source.tree.IdentifierTree;
import com.sun.source.tree.ImportTree;
import com.sun.source.tree.InstanceOfTree;
import com.sun.source.tree.LambdaExpressionTree;
import com.sun.source.tree.LiteralTree;
import com.sun.source.tree.MemberReferenceTree;
import com.sun.source.tree.MemberSelectTree;
import com.sun.source.tree.MethodInvocationTree;
import com.sun.source.tree.MethodTree;
import com.sun.source.tree.NewArrayTree;
import com.sun.source.tree.NewClassTree;
import com.sun.source.tree.ParenthesizedTree;
import com.sun.source.tree.SynchronizedTree;
import com.sun.source.tree.ThrowTree;
import com.sun.source.tree.Tree;
import com.sun.source.tree.TryTree;
import com.sun.source.tree.TypeCastTree;
import com.sun.source.tree.VariableTree;
import com.sun.source.tree.WhileLoopTree;
import com.sun.source.util.JavacTask;
import com.sun.source.util.TreePath;
import com.sun.source.util.TreePathScanner;
import com.sun.source.util.Trees;
import java.io.IOException;
import java.nio.file.Files;
import java.nio.file.Path;
import java.util.HashMap;
import java.util.List;
import java.util.Map;
import java.util.Set;
import java.util.TreeMap;
import java.util.TreeSet;
import javax.lang.model.element.Element;
import javax.lang.model.element.ElementKind;
import javax.lang.model.element.ExecutableElement;
import javax.lang.model.element.Modifier;
import javax.lang.model.element.TypeElement;
import javax.lang.model.type.ArrayType;
import javax.lang.model.type.TypeKind;
import javax.lang.model.type.TypeMirror;
import javax.tools.JavaCompiler;
import javax.tools.StandardJavaFileManager;
import javax.tools.ToolProvider;

/**
 * The rules of LANGUAGE.md that the compiler's own tree of the class can show; run from the project's folder. Another
 * file that is named as an argument is held to them instead.
 */
final class LanguageTest extends TreePathScanner<Void, Void> {
    private static final Set<String> LIBRARY = Set.of("String.length", "String.charAt", "String.isEmpty", "String.equals",
        "String.indexOf", "String.substring", "String.toCharArray", "System.arraycopy", "Arrays.copyOf",
        "Arrays.copyOfRange", "Arrays.fill");
    private static final int MOST_LINES = 60, MOST_PARAMETERS = 7, MOST_DEPTH = 8, MOST_CLASSES = 12, MOST_FIELDS = 20;
    private static final int MOST_STEPS = 1000;

    private final Due due = new Due();
    private final Trees trees;
    private final CompilationUnitTree unit;
    /** What each method calls, by their names with their classes. */
    private final Map<String, Set<String>> calls = new TreeMap<>();
    private final Map<String, Integer> depths = new HashMap<>();
    private int classes = 0;
    private int loops = 0;

    private LanguageTest(Trees trees, CompilationUnitTree unit) {
        this.trees = trees;
        this.unit = unit;
    }

    public static void main(String[] args) throws IOException {
        Path path = Path.of(args.length > 0 ? args[0] : "src/main/java/UnlikeFerry.java");
        JavaCompiler compiler = ToolProvider.getSystemJavaCompiler();
        try (StandardJavaFileManager files = compiler.getStandardFileManager(null, null, null)) {
            List<String> options = List.of("-proc:none", "--release", "17");
            JavacTask task = (JavacTask) compiler.getTask(null, files, null, options, null, files.getJavaFileObjects(path));
            CompilationUnitTree unit = task.parse().iterator().next();
            task.analyze();
            LanguageTest test = new LanguageTest(Trees.instance(task), unit);
            test.signs(Files.readString(path));
            test.scan(unit, null);
            test.whole();
            test.due.finish("LanguageTest");
        }
    }

    private void rule(int number, String words, boolean holds) {
        due.is("rule " + number + ": " + words, holds ? 1 : 0, 1);
    }

    private void refuse(int number, Tree tree) {
        rule(number, lineOf(tree) + ": " + tree, false);
    }

    private String lineOf(Tree tree) {
        return "line " + unit.getLineMap().getLineNumber(trees.getSourcePositions().getStartPosition(unit, tree));
    }

    private void signs(String text) {
        for (int i = 0; i < text.length(); i++) {
            if (text.charAt(i) > 126) {
                rule(4, "the sign " + (int) text.charAt(i) + " at " + i, false);
            }
        }
    }

    /** What only all methods together show: nothing calls itself, and calls do not go deep. */
    private void whole() {
        rule(3, "no package", unit.getPackageName() == null);
        rule(11, classes + " classes", classes <= MOST_CLASSES);
        rule(9, "loops are looked at", loops > 0);
        for (String method : calls.keySet()) {
            int depth = depthOf(method, 1);
            rule(8, method + " calls itself", depth < MOST_STEPS);
            rule(11, method + " goes " + depth + " deep", depth <= MOST_DEPTH);
        }
    }

    private int depthOf(String method, int open) {
        if (open > 60) {
            return MOST_STEPS;
        }
        Integer known = depths.get(method);
        if (known != null) {
            return known;
        }
        int deepest = 0;
        for (String called : calls.getOrDefault(method, Set.of())) {
            deepest = Math.max(deepest, depthOf(called, open + 1));
        }
        depths.put(method, deepest + 1);
        return deepest + 1;
    }

    // ---- classes, methods, variables

    @Override
    public Void visitImport(ImportTree tree, Void none) {
        String name = tree.getQualifiedIdentifier().toString();
        rule(4, name, Set.of("java.util.ArrayList", "java.util.Arrays", "java.util.List").contains(name));
        return super.visitImport(tree, none);
    }

    @Override
    public Void visitClass(ClassTree tree, Void none) {
        classes++;
        Element element = trees.getElement(getCurrentPath());
        Tree around = getCurrentPath().getParentPath().getLeaf();
        boolean outer = around instanceof CompilationUnitTree;
        Set<Modifier> modifiers = element.getModifiers();
        rule(2, tree.getSimpleName() + " stands in a class", outer || around instanceof ClassTree);
        rule(1, tree.getSimpleName() + " is hidden", outer == modifiers.contains(Modifier.PUBLIC));
        rule(1, tree.getSimpleName() + " is static", outer || modifiers.contains(Modifier.STATIC));
        int fields = 0;
        for (Tree member : tree.getMembers()) {
            boolean isField = member instanceof VariableTree v && !v.getModifiers().getFlags().contains(Modifier.STATIC);
            fields += isField ? 1 : 0;
            boolean plain = member instanceof VariableTree || member instanceof MethodTree || member instanceof ClassTree;
            rule(5, tree.getSimpleName() + " has no block of its own", plain);
        }
        rule(11, tree.getSimpleName() + " has " + fields + " fields", fields <= MOST_FIELDS);
        return super.visitClass(tree, none);
    }

    @Override
    public Void visitMethod(MethodTree tree, Void none) {
        calls.putIfAbsent(nameOf(trees.getElement(getCurrentPath())), new TreeSet<>());
        long start = trees.getSourcePositions().getStartPosition(unit, tree);
        long end = trees.getSourcePositions().getEndPosition(unit, tree);
        // A constructor that is not written out has no place in the text.
        long lines = end < 0 ? 0 : unit.getLineMap().getLineNumber(end) - unit.getLineMap().getLineNumber(start) + 1;
        rule(11, tree.getName() + " has " + lines + " lines", lines <= MOST_LINES);
        rule(11, tree.getName() + " has few parameters", tree.getParameters().size() <= MOST_PARAMETERS);
        return super.visitMethod(tree, none);
    }

    @Override
    public Void visitVariable(VariableTree tree, Void none) {
        Element element = trees.getElement(getCurrentPath());
        TypeMirror type = element.asType();
        rule(3, tree.getName() + " is of a type that is told: " + type, isTold(type, 0));
        if (element.getModifiers().contains(Modifier.STATIC)) {
            boolean constant = element.getModifiers().contains(Modifier.FINAL) && isConstant(type);
            rule(5, tree.getName() + " is a constant", constant);
        }
        return super.visitVariable(tree, none);
    }

    private boolean isTold(TypeMirror type, int rows) {
        if (type.getKind() == TypeKind.ARRAY) {
            return isTold(((ArrayType) type).getComponentType(), rows + 1);
        }
        if (type.getKind().isPrimitive()) {
            return rows <= 2;
        }
        return isOwn(type) && rows <= 1 || rows == 0 && type.toString().equals("java.lang.String");
    }

    private static boolean isConstant(TypeMirror type) {
        return Set.of("int", "long", "boolean", "char", "java.lang.String", "int[]", "long[]", "char[]", "byte[]")
            .contains(type.toString());
    }

    private static boolean isOwn(TypeMirror type) {
        return type.toString().equals("UnlikeFerry") || type.toString().startsWith("UnlikeFerry.");
    }

    // ---- what is called, what is made

    private static String nameOf(Element method) {
        return method.getEnclosingElement().getSimpleName() + "." + method.getSimpleName();
    }

    @Override
    public Void visitMethodInvocation(MethodInvocationTree tree, Void none) {
        Element called = trees.getElement(getCurrentPath());
        if (called instanceof ExecutableElement method && !isSuper(tree)) {
            if (isOwn(method.getEnclosingElement().asType())) {
                noteCall(method);
            } else {
                rule(4, lineOf(tree) + ": " + nameOf(method), isInLibrary(method));
            }
        }
        handsOutNothing(tree.getArguments());
        return super.visitMethodInvocation(tree, none);
    }

    /** The compiler's own call of the constructor above. */
    private static boolean isSuper(MethodInvocationTree tree) {
        return tree.getMethodSelect().toString().equals("super");
    }

    private void noteCall(Element method) {
        String caller = currentMethod();
        if (caller != null) {
            calls.computeIfAbsent(caller, key -> new TreeSet<>()).add(nameOf(method));
        }
    }

    /** Null for what stands beside a field. */
    private String currentMethod() {
        for (TreePath path = getCurrentPath(); path != null; path = path.getParentPath()) {
            if (path.getLeaf() instanceof MethodTree) {
                return nameOf(trees.getElement(path));
            }
        }
        return null;
    }

    private static boolean isInLibrary(ExecutableElement method) {
        TypeElement owner = (TypeElement) method.getEnclosingElement();
        boolean numbers = Set.of("Integer", "Long", "Math").contains(owner.getSimpleName().toString());
        if (!numbers) {
            return LIBRARY.contains(nameOf(method));
        }
        boolean whole = method.getModifiers().contains(Modifier.STATIC) && isWhole(method.getReturnType());
        for (Element parameter : method.getParameters()) {
            whole &= isWhole(parameter.asType());
        }
        return whole && !method.getSimpleName().toString().endsWith("Exact");
    }

    private static boolean isWhole(TypeMirror type) {
        return type.getKind() == TypeKind.INT || type.getKind() == TypeKind.LONG;
    }

    @Override
    public Void visitNewClass(NewClassTree tree, Void none) {
        Element made = trees.getElement(getCurrentPath());
        rule(4, lineOf(tree) + " makes an object of its own", isOwn(made.getEnclosingElement().asType()));
        rule(2, lineOf(tree) + " makes no class without a name", tree.getClassBody() == null);
        rule(12, lineOf(tree) + " makes an object in a constructor alone", isInConstructor());
        noteCall(made);
        handsOutNothing(tree.getArguments());
        return super.visitNewClass(tree, none);
    }

    @Override
    public Void visitNewArray(NewArrayTree tree, Void none) {
        rule(12, lineOf(tree) + " makes a row in a constructor alone", isInConstructor());
        return super.visitNewArray(tree, none);
    }

    private boolean isInConstructor() {
        String method = currentMethod();
        return method == null || method.endsWith(".<init>");
    }

    /** A constructor gives neither the object that it makes nor anything of it to others. */
    private void handsOutNothing(List<? extends ExpressionTree> arguments) {
        if (!isInConstructor()) {
            return;
        }
        for (ExpressionTree argument : arguments) {
            Element element = trees.getElement(new TreePath(getCurrentPath(), argument));
            boolean part = element != null && (element.getKind() == ElementKind.FIELD || argument.toString().equals("this"));
            boolean number = part && element.asType().getKind().isPrimitive();
            rule(12, lineOf(argument) + ": a constructor hands out " + argument, !part || number);
        }
    }

    // ---- what is not in the language

    @Override
    public Void visitThrow(ThrowTree tree, Void none) {
        refuse(6, tree);
        return super.visitThrow(tree, none);
    }

    @Override
    public Void visitTry(TryTree tree, Void none) {
        refuse(6, tree);
        return super.visitTry(tree, none);
    }

    @Override
    public Void visitSynchronized(SynchronizedTree tree, Void none) {
        refuse(6, tree);
        return super.visitSynchronized(tree, none);
    }

    @Override
    public Void visitAssert(AssertTree tree, Void none) {
        refuse(6, tree);
        return super.visitAssert(tree, none);
    }

    @Override
    public Void visitLambdaExpression(LambdaExpressionTree tree, Void none) {
        refuse(2, tree);
        return super.visitLambdaExpression(tree, none);
    }

    @Override
    public Void visitMemberReference(MemberReferenceTree tree, Void none) {
        refuse(2, tree);
        return super.visitMemberReference(tree, none);
    }

    @Override
    public Void visitInstanceOf(InstanceOfTree tree, Void none) {
        refuse(6, tree);
        return super.visitInstanceOf(tree, none);
    }

    /** Numbers alone are cast: no cast can be refused by the machine. */
    @Override
    public Void visitTypeCast(TypeCastTree tree, Void none) {
        rule(6, lineOf(tree) + ": " + tree, trees.getTypeMirror(getCurrentPath()).getKind().isPrimitive());
        return super.visitTypeCast(tree, none);
    }

    @Override
    public Void visitLiteral(LiteralTree tree, Void none) {
        rule(3, lineOf(tree) + ": " + tree, !(tree.getValue() instanceof Double) && !(tree.getValue() instanceof Float));
        return super.visitLiteral(tree, none);
    }

    @Override
    public Void visitBinary(BinaryTree tree, Void none) {
        boolean numbers = isNumber(tree.getLeftOperand()) && isNumber(tree.getRightOperand());
        rule(10, lineOf(tree) + ": numbers on both sides of " + tree.getKind(), numbers);
        return super.visitBinary(tree, none);
    }

    private boolean isNumber(ExpressionTree tree) {
        return trees.getTypeMirror(new TreePath(getCurrentPath(), tree)).getKind().isPrimitive();
    }

    // ---- loops

    @Override
    public Void visitForLoop(ForLoopTree tree, Void none) {
        loops++;
        rule(9, lineOf(tree) + " has an end", tree.getCondition() != null && isBounded(tree.getCondition()));
        return super.visitForLoop(tree, none);
    }

    @Override
    public Void visitWhileLoop(WhileLoopTree tree, Void none) {
        loops++;
        rule(9, lineOf(tree) + " has an end", isBounded(tree.getCondition()));
        return super.visitWhileLoop(tree, none);
    }

    @Override
    public Void visitDoWhileLoop(DoWhileLoopTree tree, Void none) {
        loops++;
        rule(9, lineOf(tree) + " has an end", isBounded(tree.getCondition()));
        return super.visitDoWhileLoop(tree, none);
    }

    /** Whether a number stays below a bound so long as the loop goes on. */
    private static boolean isBounded(ExpressionTree condition) {
        if (condition instanceof ParenthesizedTree inner) {
            return isBounded(inner.getExpression());
        }
        if (!(condition instanceof BinaryTree two)) {
            return false;
        }
        switch (two.getKind()) {
            case CONDITIONAL_AND: return isBounded(two.getLeftOperand()) || isBounded(two.getRightOperand());
            case LESS_THAN: case LESS_THAN_EQUAL: return isNamed(two.getLeftOperand());
            default: return false;
        }
    }

    private static boolean isNamed(ExpressionTree tree) {
        return tree instanceof IdentifierTree || tree instanceof MemberSelectTree;
    }
}
