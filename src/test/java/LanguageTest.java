import com.sun.source.tree.AnnotationTree;
import com.sun.source.tree.AssertTree;
import com.sun.source.tree.BinaryTree;
import com.sun.source.tree.BlockTree;
import com.sun.source.tree.ClassTree;
import com.sun.source.tree.CompilationUnitTree;
import com.sun.source.tree.CompoundAssignmentTree;
import com.sun.source.tree.DoWhileLoopTree;
import com.sun.source.tree.EnhancedForLoopTree;
import com.sun.source.tree.ExpressionTree;
import com.sun.source.tree.ForLoopTree;
import com.sun.source.tree.ImportTree;
import com.sun.source.tree.InstanceOfTree;
import com.sun.source.tree.LambdaExpressionTree;
import com.sun.source.tree.LiteralTree;
import com.sun.source.tree.MemberReferenceTree;
import com.sun.source.tree.MethodInvocationTree;
import com.sun.source.tree.MethodTree;
import com.sun.source.tree.NewArrayTree;
import com.sun.source.tree.NewClassTree;
import com.sun.source.tree.PrimitiveTypeTree;
import com.sun.source.tree.SynchronizedTree;
import com.sun.source.tree.ThrowTree;
import com.sun.source.tree.Tree;
import com.sun.source.tree.TryTree;
import com.sun.source.tree.TypeCastTree;
import com.sun.source.tree.VariableTree;
import com.sun.source.tree.WhileLoopTree;
import com.sun.source.util.JavacTask;
import com.sun.source.util.SourcePositions;
import com.sun.source.util.TreePathScanner;
import com.sun.source.util.Trees;
import java.io.IOException;
import java.nio.charset.StandardCharsets;
import java.nio.file.Files;
import java.nio.file.Path;
import java.util.Arrays;
import java.util.HashMap;
import java.util.List;
import java.util.Map;
import java.util.Set;
import java.util.TreeSet;
import javax.lang.model.element.Element;
import javax.lang.model.element.ElementKind;
import javax.lang.model.element.Modifier;
import javax.lang.model.type.ArrayType;
import javax.lang.model.type.TypeKind;
import javax.lang.model.type.TypeMirror;
import javax.tools.JavaCompiler;
import javax.tools.StandardJavaFileManager;
import javax.tools.ToolProvider;

/**
 * The rules of ../shared/LANGUAGE.md, as javac's own tree of the program tells them. (The face, rule 1,
 * is FaceTest's.) What the rules allow and the program does without, as try, while or casts, is not allowed
 * here: it would need a look of its own first.
 */
public final class LanguageTest extends TreePathScanner<Void, Void> {
    private static final String PROGRAM = "src/main/java/BoilerLog.java";
    private static final int MOST_PARAMETERS = 7, MOST_LINES = 60, MOST_DEPTH = 8, MOST_CLASSES = 12, MOST_FIELDS = 20;
    private static final List<String> IMPORTS = Arrays.asList("java.util.ArrayList", "java.util.Arrays", "java.util.List");
    private static final List<String> EXCEPTIONS = Arrays.asList("IllegalStateException", "IllegalArgumentException",
        "IndexOutOfBoundsException", "ArithmeticException", "UnsupportedOperationException", "NoSuchElementException",
        "RuntimeException");
    private static final Map<String, List<String>> LIBRARY = Map.of(
        "java.util.ArrayList", Arrays.asList("add", "get", "set", "remove", "size", "isEmpty", "clear"),
        "java.util.Arrays", Arrays.asList("copyOf", "copyOfRange", "fill"),
        "java.lang.Math", Arrays.asList("max", "min", "abs", "floorDiv", "floorMod"),
        "java.lang.System", Arrays.asList("arraycopy"));
    private static final Set<TypeKind> NUMBERS = Set.of(TypeKind.INT, TypeKind.LONG, TypeKind.SHORT, TypeKind.BYTE,
        TypeKind.CHAR, TypeKind.BOOLEAN);

    private final CompilationUnitTree unit;
    private final Trees trees;
    private final SourcePositions positions;
    private final Map<String, Set<String>> calls = new HashMap<>();
    private int classes = 0;
    private String caller = "";

    private LanguageTest(CompilationUnitTree unit, Trees trees) {
        this.unit = unit;
        this.trees = trees;
        this.positions = trees.getSourcePositions();
    }

    public static void main(String[] args) throws IOException {
        testCharacters();
        JavaCompiler compiler = ToolProvider.getSystemJavaCompiler();
        try (StandardJavaFileManager files = compiler.getStandardFileManager(null, null, StandardCharsets.UTF_8)) {
            JavacTask task = (JavacTask) compiler.getTask(null, files, null, List.of("-proc:none"), null,
                files.getJavaFileObjects(PROGRAM));
            CompilationUnitTree unit = task.parse().iterator().next();
            task.analyze();
            LanguageTest test = new LanguageTest(unit, Trees.instance(task));
            test.scan(unit, null);
            test.testClasses();
            test.testCallDepth();
        }
        Check.end();
    }

    // Rule 4: the signs of constants are 1 to 127; the whole file keeps to that.
    private static void testCharacters() throws IOException {
        for (byte character : Files.readAllBytes(Path.of(PROGRAM))) {
            if (character <= 0) {
                Check.fail("rule 4: a sign that is not 1 to 127");
                return;
            }
        }
    }

    private void testClasses() {
        Check.same("no package line", true, unit.getPackageName() == null);
        Check.same("one class in the file", 1, unit.getTypeDecls().size());
        Check.same("rule 11: some twelve classes, not " + classes, true, classes <= MOST_CLASSES);
    }

    // Rules 8 and 11: no call comes back to its method, and none goes more than eight deep.
    private void testCallDepth() {
        for (String method : calls.keySet()) {
            if (depthOf(method, 1) > MOST_DEPTH) {
                Check.fail("rules 8 and 11: recursion or too deep calls from " + method);
            }
        }
    }

    private int depthOf(String method, int above) {
        int deepest = above;
        if (above <= MOST_DEPTH) {
            for (String called : calls.getOrDefault(method, Set.of())) {
                deepest = Math.max(deepest, depthOf(called, above + 1));
            }
        }
        return deepest;
    }

    private void refuse(int rule, Tree tree) {
        long line = unit.getLineMap().getLineNumber(positions.getStartPosition(unit, tree));
        Check.fail("rule " + rule + ", line " + line + ": " + tree);
    }

    private TypeMirror typeOf(Tree tree) {
        return trees.getTypeMirror(trees.getPath(unit, tree));
    }

    // ---- rules 1, 2, 4, 5 and 11: what is declared

    @Override
    public Void visitImport(ImportTree tree, Void none) {
        if (tree.isStatic() || !IMPORTS.contains(tree.getQualifiedIdentifier().toString())) {
            refuse(4, tree);
        }
        return super.visitImport(tree, none);
    }

    @Override
    public Void visitAnnotation(AnnotationTree tree, Void none) {
        refuse(4, tree);
        return super.visitAnnotation(tree, none);
    }

    @Override
    public Void visitClass(ClassTree tree, Void none) {
        classes++;
        Tree outer = getCurrentPath().getParentPath().getLeaf();
        Set<Modifier> modifiers = tree.getModifiers().getFlags();
        if (outer instanceof ClassTree && !modifiers.contains(Modifier.STATIC) || outer instanceof BlockTree) {
            refuse(2, tree);
        }
        int fields = 0;
        for (Tree member : tree.getMembers()) {
            if (member instanceof BlockTree) {
                refuse(5, member);
            }
            if (member instanceof VariableTree field && !field.getModifiers().getFlags().contains(Modifier.STATIC)) {
                fields++;
            }
            if (outer instanceof ClassTree && !isPrivate(member)) {
                refuse(1, member);
            }
        }
        Check.same("rule 11: some twenty fields in " + tree.getSimpleName(), true, fields <= MOST_FIELDS);
        return super.visitClass(tree, none);
    }

    private static boolean isPrivate(Tree member) {
        if (member instanceof MethodTree method) {
            return method.getModifiers().getFlags().contains(Modifier.PRIVATE);
        }
        return !(member instanceof VariableTree field) || field.getModifiers().getFlags().contains(Modifier.PRIVATE);
    }

    @Override
    public Void visitMethod(MethodTree tree, Void none) {
        String above = caller;
        caller = trees.getElement(getCurrentPath()).getEnclosingElement() + "." + tree.getName();
        calls.putIfAbsent(caller, new TreeSet<>());
        if (tree.getParameters().size() > MOST_PARAMETERS || linesOf(tree) > MOST_LINES) {
            refuse(11, tree);
        }
        super.visitMethod(tree, none);
        caller = above;
        return null;
    }

    private long linesOf(Tree tree) {
        long first = unit.getLineMap().getLineNumber(positions.getStartPosition(unit, tree));
        long end = positions.getEndPosition(unit, tree);
        return end < 0 ? 1 : unit.getLineMap().getLineNumber(end) - first + 1;
    }

    @Override
    public Void visitVariable(VariableTree tree, Void none) {
        if (tree.getType() == null || !isAllowed(typeOf(tree))) {
            refuse(3, tree);
        }
        Element variable = trees.getElement(getCurrentPath());
        if (variable.getKind() == ElementKind.FIELD && variable.getModifiers().contains(Modifier.STATIC)
            && (!variable.getModifiers().contains(Modifier.FINAL) || tree.getInitializer() == null
            || !variable.asType().getKind().isPrimitive())) {
            refuse(5, tree);
        }
        return super.visitVariable(tree, none);
    }

    // ---- rule 3: types

    private boolean isAllowed(TypeMirror type) {
        if (type.getKind() == TypeKind.ARRAY) {
            TypeMirror element = ((ArrayType) type).getComponentType();
            return NUMBERS.contains(element.getKind()) || isOwn(element.toString());
        }
        String name = type.toString();
        return NUMBERS.contains(type.getKind()) || isOwn(name)
            || name.startsWith("java.util.ArrayList<") && isOwn(name.substring("java.util.ArrayList<".length()));
    }

    private static boolean isOwn(String name) {
        return name.startsWith("BoilerLog");
    }

    @Override
    public Void visitPrimitiveType(PrimitiveTypeTree tree, Void none) {
        if (tree.getPrimitiveTypeKind() != TypeKind.VOID && !NUMBERS.contains(tree.getPrimitiveTypeKind())) {
            refuse(3, tree);
        }
        return super.visitPrimitiveType(tree, none);
    }

    @Override
    public Void visitNewArray(NewArrayTree tree, Void none) {
        if (tree.getDimensions().size() > 1) {
            refuse(3, tree);
        }
        return super.visitNewArray(tree, none);
    }

    // ---- rule 4: the library, and rule 8: who calls whom

    @Override
    public Void visitMethodInvocation(MethodInvocationTree tree, Void none) {
        Element method = trees.getElement(getCurrentPath());
        String owner = owner(method);
        String name = method.getSimpleName().toString();
        if (isOwn(owner)) {
            calls.get(caller).add(owner + "." + name);
        } else if (!(owner.equals("java.lang.Object") && name.equals("<init>"))
            && !LIBRARY.getOrDefault(owner, List.of()).contains(name)) {
            refuse(4, tree);
        }
        return super.visitMethodInvocation(tree, none);
    }

    private static String owner(Element method) {
        String owner = method.getEnclosingElement().toString();
        int generic = owner.indexOf('<');
        return generic < 0 ? owner : owner.substring(0, generic);
    }

    @Override
    public Void visitNewClass(NewClassTree tree, Void none) {
        String owner = owner(trees.getElement(getCurrentPath()));
        boolean isThrown = getCurrentPath().getParentPath().getLeaf() instanceof ThrowTree;
        if (isOwn(owner)) {
            calls.getOrDefault(caller, new TreeSet<>()).add(owner + ".<init>");
        } else if (!owner.equals("java.util.ArrayList") && !isThrown) {
            refuse(4, tree);
        }
        return super.visitNewClass(tree, none);
    }

    // ---- rule 6: exceptions

    @Override
    public Void visitThrow(ThrowTree tree, Void none) {
        boolean isRight = tree.getExpression() instanceof NewClassTree made
            && EXCEPTIONS.contains(made.getIdentifier().toString())
            && made.getArguments().size() <= 1 && made.getArguments().stream().allMatch(LiteralTree.class::isInstance);
        if (!isRight || caller.endsWith("<init>")) {
            refuse(6, tree);
        }
        return super.visitThrow(tree, none);
    }

    @Override
    public Void visitTry(TryTree tree, Void none) {
        refuse(6, tree);
        return super.visitTry(tree, none);
    }

    @Override
    public Void visitSynchronized(SynchronizedTree tree, Void none) {
        refuse(6, tree);
        return super.visitSynchronized(tree, none);
    }

    @Override
    public Void visitAssert(AssertTree tree, Void none) {
        refuse(6, tree);
        return super.visitAssert(tree, none);
    }

    @Override
    public Void visitTypeCast(TypeCastTree tree, Void none) {
        refuse(6, tree);
        return super.visitTypeCast(tree, none);
    }

    @Override
    public Void visitInstanceOf(InstanceOfTree tree, Void none) {
        refuse(6, tree);
        return super.visitInstanceOf(tree, none);
    }

    // ---- rules 2, 9, 10 and 12: what stands in methods

    @Override
    public Void visitLambdaExpression(LambdaExpressionTree tree, Void none) {
        refuse(2, tree);
        return super.visitLambdaExpression(tree, none);
    }

    @Override
    public Void visitMemberReference(MemberReferenceTree tree, Void none) {
        refuse(2, tree);
        return super.visitMemberReference(tree, none);
    }

    @Override
    public Void visitForLoop(ForLoopTree tree, Void none) {
        if (tree.getCondition() == null || tree.getUpdate().size() != 1) {
            refuse(9, tree);
        }
        return super.visitForLoop(tree, none);
    }

    @Override
    public Void visitWhileLoop(WhileLoopTree tree, Void none) {
        refuse(9, tree);
        return super.visitWhileLoop(tree, none);
    }

    @Override
    public Void visitDoWhileLoop(DoWhileLoopTree tree, Void none) {
        refuse(9, tree);
        return super.visitDoWhileLoop(tree, none);
    }

    @Override
    public Void visitEnhancedForLoop(EnhancedForLoopTree tree, Void none) {
        if (typeOf(tree.getExpression()).getKind() != TypeKind.ARRAY) {
            refuse(12, tree);
        }
        return super.visitEnhancedForLoop(tree, none);
    }

    @Override
    public Void visitBinary(BinaryTree tree, Void none) {
        checkParts(tree, tree.getLeftOperand(), tree.getRightOperand());
        return super.visitBinary(tree, none);
    }

    @Override
    public Void visitCompoundAssignment(CompoundAssignmentTree tree, Void none) {
        checkParts(tree, tree.getVariable(), tree.getExpression());
        return super.visitCompoundAssignment(tree, none);
    }

    // Numbers alone: no text is joined, and no object compared.
    private void checkParts(Tree whole, ExpressionTree left, ExpressionTree right) {
        if (!NUMBERS.contains(typeOf(left).getKind()) || !NUMBERS.contains(typeOf(right).getKind())) {
            refuse(10, whole);
        }
    }
}
