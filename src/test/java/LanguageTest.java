import com.sun.source.tree.AssertTree;
import com.sun.source.tree.BinaryTree;
import com.sun.source.tree.BlockTree;
import com.sun.source.tree.ClassTree;
import com.sun.source.tree.CompilationUnitTree;
import com.sun.source.tree.DoWhileLoopTree;
import com.sun.source.tree.EnhancedForLoopTree;
import com.sun.source.tree.ExpressionTree;
import com.sun.source.tree.ForLoopTree;
import com.sun.source.tree.LambdaExpressionTree;
import com.sun.source.tree.LiteralTree;
import com.sun.source.tree.MemberReferenceTree;
import com.sun.source.tree.MethodInvocationTree;
import com.sun.source.tree.MethodTree;
import com.sun.source.tree.NewArrayTree;
import com.sun.source.tree.NewClassTree;
import com.sun.source.tree.SynchronizedTree;
import com.sun.source.tree.ThrowTree;
import com.sun.source.tree.Tree;
import com.sun.source.tree.TryTree;
import com.sun.source.tree.TypeCastTree;
import com.sun.source.tree.VariableTree;
import com.sun.source.tree.WhileLoopTree;
import com.sun.source.util.JavacTask;
import com.sun.source.util.TreePath;
import com.sun.source.util.TreePathScanner;
import com.sun.source.util.Trees;
import java.io.IOException;
import java.nio.file.Files;
import java.nio.file.Path;
import java.util.List;
import java.util.Map;
import java.util.Set;
import java.util.TreeMap;
import java.util.TreeSet;
import javax.lang.model.element.Element;
import javax.lang.model.element.Modifier;
import javax.lang.model.type.ArrayType;
import javax.lang.model.type.TypeKind;
import javax.lang.model.type.TypeMirror;
import javax.tools.JavaCompiler;
import javax.tools.StandardJavaFileManager;
import javax.tools.ToolProvider;

/**
 * The program keeps to ../shared/LANGUAGE.md, as far as its text tells. The program uses less than
 * the rules leave it (no list, no text but for exceptions, no try, no while, no recursion), and
 * the test asks for no more than it uses: a new means is to be allowed here when it is needed.
 * Each answer is labelled with the number of its rule.
 */
public final class LanguageTest extends TreePathScanner<Void, Void> {
    private static final Path PROGRAM = Path.of("src/main/java/PlanetaryGearbox.java");
    private static final Set<String> LIBRARY = Set.of("java.lang.Math.min", "java.lang.Math.abs",
            "java.lang.Integer.bitCount");
    private static final Set<String> EXCEPTIONS = Set.of("IllegalStateException",
            "IllegalArgumentException", "IndexOutOfBoundsException");
    private static final int MOST_LINES = 60;
    private static final int MOST_PARAMETERS = 7;
    private static final int MOST_FIELDS = 20;
    private static final int MOST_CLASSES = 12;
    private static final int DEEPEST = 8;

    private final Trees trees;
    private final CompilationUnitTree unit;
    /** Which methods of the program each of them calls. */
    private final Map<String, Set<String>> calls = new TreeMap<>();
    private int classes;

    private LanguageTest(Trees trees, CompilationUnitTree unit) {
        this.trees = trees;
        this.unit = unit;
    }

    public static void main(String[] args) throws IOException {
        checkSigns(Files.readString(PROGRAM));
        JavaCompiler compiler = ToolProvider.getSystemJavaCompiler();
        try (StandardJavaFileManager files = compiler.getStandardFileManager(null, null, null)) {
            JavacTask task = (JavacTask) compiler.getTask(null, files, null,
                    List.of("-proc:none"), null,
                    files.getJavaFileObjects(PROGRAM));
            CompilationUnitTree unit = task.parse().iterator().next();
            task.analyze();
            LanguageTest test = new LanguageTest(Trees.instance(task), unit);
            test.checkFile();
            test.scan(unit, null);
            test.checkCalls();
        }
        Check.finish();
    }

    private static void checkSigns(String text) {
        for (int i = 0; i < text.length(); i++) {
            if (text.charAt(i) < 1 || text.charAt(i) > 127) {
                Check.equal("rule 4: sign " + i, text.charAt(i), ' ');
            }
        }
    }

    private void checkFile() {
        Check.isTrue("rule 1: no package line", unit.getPackageName() == null);
        Check.equal("rule 4: imports", unit.getImports().size(), 0);
        Check.equal("rule 1: classes of the file", unit.getTypeDecls().size(), 1);
    }

    /** No method calls itself by any way, and none stands open under too many others. */
    private void checkCalls() {
        Check.isTrue("rule 11: classes", classes <= MOST_CLASSES);
        for (String method : calls.keySet()) {
            int depth = depth(method, 0);
            Check.isTrue("rules 8, 11: calls open under " + method + ", it too: " + depth,
                    depth <= DEEPEST);
        }
    }

    private int depth(String method, int open) {
        int deepest = 0;
        if (open <= DEEPEST) {
            for (String called : calls.getOrDefault(method, Set.of())) {
                deepest = Math.max(deepest, depth(called, open + 1));
            }
        }
        return deepest + 1;
    }

    @Override
    public Void visitClass(ClassTree tree, Void none) {
        classes++;
        String name = tree.getSimpleName().toString();
        boolean outer = getCurrentPath().getParentPath().getLeaf() == unit;
        Set<Modifier> modifiers = tree.getModifiers().getFlags();
        Check.isTrue("rule 2: " + name + " is the face or static",
                outer || modifiers.contains(Modifier.STATIC));
        Check.isTrue("rule 6: " + name + " is no exception", tree.getExtendsClause() == null);
        int fields = 0;
        for (Tree member : tree.getMembers()) {
            if (member instanceof VariableTree) {
                fields += isStatic((VariableTree) member) ? 0 : 1;
                checkStatic((VariableTree) member);
            }
            Check.isFalse("rule 5: an initialiser block in " + name, member instanceof BlockTree);
        }
        Check.isTrue("rule 11: fields of " + name + ": " + fields, fields <= MOST_FIELDS);
        return super.visitClass(tree, none);
    }

    private static boolean isStatic(VariableTree field) {
        return field.getModifiers().getFlags().contains(Modifier.STATIC);
    }

    private static void checkStatic(VariableTree field) {
        if (isStatic(field)) {
            Check.isTrue("rule 5: " + field.getName() + " is final",
                    field.getModifiers().getFlags().contains(Modifier.FINAL));
            Check.equalText("rule 5: type of " + field.getName(), field.getType().toString(),
                    "int");
        }
    }

    @Override
    public Void visitMethod(MethodTree tree, Void none) {
        String name = tree.getName().toString();
        Check.isTrue("rule 11: parameters of " + name,
                tree.getParameters().size() <= MOST_PARAMETERS);
        if (tree.getBody() != null) {
            Check.isTrue("rule 11: lines of " + name, linesOf(tree.getBody()) <= MOST_LINES);
        }
        Set<Modifier> modifiers = tree.getModifiers().getFlags();
        Check.isFalse("rule 1: " + name + " of an inner class is public",
                modifiers.contains(Modifier.PUBLIC) && !isInFace());
        for (String ofObject : new String[] {"equals", "hashCode", "toString"}) {
            Check.isFalse("rule 6: " + name, name.equals(ofObject));
        }
        if (tree.getReturnType() != null) {
            checkType(name, new TreePath(getCurrentPath(), tree.getReturnType()));
        }
        calls.computeIfAbsent(idOf(getCurrentPath()), key -> new TreeSet<>());
        return super.visitMethod(tree, none);
    }

    private long linesOf(Tree tree) {
        long first = trees.getSourcePositions().getStartPosition(unit, tree);
        long last = trees.getSourcePositions().getEndPosition(unit, tree);
        return unit.getLineMap().getLineNumber(last) - unit.getLineMap().getLineNumber(first) + 1;
    }

    private boolean isInFace() {
        TreePath path = getCurrentPath();
        while (!(path.getLeaf() instanceof ClassTree)) {
            path = path.getParentPath();
        }
        return path.getParentPath().getLeaf() == unit;
    }

    /** The method that a place stands in, or null if it stands in none. */
    private TreePath methodAround() {
        TreePath path = getCurrentPath();
        while (path != null && !(path.getLeaf() instanceof MethodTree)) {
            path = path.getParentPath();
        }
        return path;
    }

    private String idOf(TreePath path) {
        Element method = trees.getElement(path);
        return method.getEnclosingElement() + "." + method;
    }

    @Override
    public Void visitVariable(VariableTree tree, Void none) {
        checkType(tree.getName().toString(), new TreePath(getCurrentPath(), tree.getType()));
        return super.visitVariable(tree, none);
    }

    /** Numbers and booleans, arrays of them of one or two dimensions, and own classes. */
    private void checkType(String name, TreePath path) {
        TypeMirror type = trees.getTypeMirror(path);
        for (int dimension = 0; dimension < 2 && type.getKind() == TypeKind.ARRAY; dimension++) {
            type = ((ArrayType) type).getComponentType();
        }
        boolean own = type.getKind() == TypeKind.DECLARED
                && type.toString().startsWith("PlanetaryGearbox.");
        Check.isTrue("rule 3: type of " + name, own || type.getKind().isPrimitive()
                || type.getKind() == TypeKind.VOID);
    }

    @Override
    public Void visitMethodInvocation(MethodInvocationTree tree, Void none) {
        Element called = trees.getElement(getCurrentPath());
        String owner = called.getEnclosingElement().toString();
        String name = owner + "." + called.getSimpleName();
        TreePath caller = methodAround();
        if (owner.startsWith("PlanetaryGearbox")) {
            Check.isTrue("rule 12: a call outside of methods: " + name, caller != null);
            if (caller != null) {
                calls.computeIfAbsent(idOf(caller), key -> new TreeSet<>()).add(owner + "." + called);
            }
        } else if (!called.toString().equals("Object()")) {
            Check.isTrue("rule 4: " + name, LIBRARY.contains(name));
            for (ExpressionTree argument : tree.getArguments()) {
                Check.isFalse("rule 3: " + name + " on a float",
                        isFloating(new TreePath(getCurrentPath(), argument)));
            }
        }
        return super.visitMethodInvocation(tree, none);
    }

    private boolean isFloating(TreePath path) {
        TypeKind kind = trees.getTypeMirror(path).getKind();
        return kind == TypeKind.FLOAT || kind == TypeKind.DOUBLE;
    }

    /** All objects but exceptions are made with the fields that hold them. */
    @Override
    public Void visitNewClass(NewClassTree tree, Void none) {
        Tree around = getCurrentPath().getParentPath().getLeaf();
        Check.isTrue("rule 12: " + tree,
                around instanceof ThrowTree || around instanceof VariableTree
                        && methodAround() == null);
        Check.isTrue("rule 2: an anonymous class: " + tree, tree.getClassBody() == null);
        return super.visitNewClass(tree, none);
    }

    @Override
    public Void visitNewArray(NewArrayTree tree, Void none) {
        Check.isTrue("rule 12: " + tree, methodAround() == null);
        return super.visitNewArray(tree, none);
    }

    /** A throw of a new exception of the document with a written text, in a method of the face. */
    @Override
    public Void visitThrow(ThrowTree tree, Void none) {
        boolean right = false;
        if (tree.getExpression() instanceof NewClassTree) {
            NewClassTree made = (NewClassTree) tree.getExpression();
            right = EXCEPTIONS.contains(made.getIdentifier().toString())
                    && made.getArguments().size() == 1
                    && made.getArguments().get(0) instanceof LiteralTree;
        }
        Check.isTrue("rule 6: " + tree, right);
        MethodTree method = (MethodTree) methodAround().getLeaf();
        Check.isTrue("rule 6: a throw in " + method.getName(), isInFace()
                && method.getModifiers().getFlags().contains(Modifier.PUBLIC)
                && method.getReturnType() != null);
        return super.visitThrow(tree, none);
    }

    @Override
    public Void visitForLoop(ForLoopTree tree, Void none) {
        Check.isTrue("rule 9: " + tree.getCondition(),
                tree.getCondition() != null && tree.getUpdate().size() == 1);
        return super.visitForLoop(tree, none);
    }

    @Override
    public Void visitBinary(BinaryTree tree, Void none) {
        for (ExpressionTree side : new ExpressionTree[] {tree.getLeftOperand(),
            tree.getRightOperand()}) {
            Check.isTrue("rule 10: no text is joined: " + tree,
                    trees.getTypeMirror(new TreePath(getCurrentPath(), side)).getKind()
                            .isPrimitive());
        }
        boolean floating = isFloating(getCurrentPath());
        Check.isFalse("rule 3: " + tree, floating && tree.getKind() == Tree.Kind.REMAINDER);
        return super.visitBinary(tree, none);
    }

    @Override
    public Void visitTypeCast(TypeCastTree tree, Void none) {
        Check.isTrue("rule 6: a cast of numbers alone: " + tree,
                trees.getTypeMirror(getCurrentPath()).getKind().isPrimitive());
        return super.visitTypeCast(tree, none);
    }

    @Override
    public Void visitTry(TryTree tree, Void none) {
        return isNotUsed("rule 6", tree);
    }

    @Override
    public Void visitSynchronized(SynchronizedTree tree, Void none) {
        return isNotUsed("rule 6", tree);
    }

    @Override
    public Void visitAssert(AssertTree tree, Void none) {
        return isNotUsed("rule 6", tree);
    }

    @Override
    public Void visitLambdaExpression(LambdaExpressionTree tree, Void none) {
        return isNotUsed("rule 2", tree);
    }

    @Override
    public Void visitMemberReference(MemberReferenceTree tree, Void none) {
        return isNotUsed("rule 2", tree);
    }

    @Override
    public Void visitWhileLoop(WhileLoopTree tree, Void none) {
        return isNotUsed("rule 9", tree);
    }

    @Override
    public Void visitDoWhileLoop(DoWhileLoopTree tree, Void none) {
        return isNotUsed("rule 9", tree);
    }

    @Override
    public Void visitEnhancedForLoop(EnhancedForLoopTree tree, Void none) {
        return isNotUsed("rule 9", tree);
    }

    private static Void isNotUsed(String rule, Tree tree) {
        Check.equalText(rule, tree.toString(), "");
        return null;
    }
}
