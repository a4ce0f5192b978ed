import com.sun.source.tree.AssertTree;
import com.sun.source.tree.BinaryTree;
import com.sun.source.tree.CatchTree;
import com.sun.source.tree.ClassTree;
import com.sun.source.tree.CompilationUnitTree;
import com.sun.source.tree.DoWhileLoopTree;
import com.sun.source.tree.ExpressionTree;
import com.sun.source.tree.ForLoopTree;
import com.sun.source.tree.IdentifierTree;
import com.sun.source.tree.LambdaExpressionTree;
import com.sun.source.tree.LiteralTree;
import com.sun.source.tree.MemberReferenceTree;
import com.sun.source.tree.MemberSelectTree;
import com.sun.source.tree.MethodInvocationTree;
import com.sun.source.tree.MethodTree;
import com.sun.source.tree.NewArrayTree;
import com.sun.source.tree.NewClassTree;
import com.sun.source.tree.ParenthesizedTree;
import com.sun.source.tree.SynchronizedTree;
import com.sun.source.tree.ThrowTree;
import com.sun.source.tree.Tree;
import com.sun.source.tree.TryTree;
import com.sun.source.tree.VariableTree;
import com.sun.source.tree.WhileLoopTree;
import com.sun.source.util.JavacTask;
import com.sun.source.util.SourcePositions;
import com.sun.source.util.TreePath;
import com.sun.source.util.TreePathScanner;
import com.sun.source.util.TreeScanner;
import com.sun.source.util.Trees;
import java.nio.file.Path;
import java.util.HashMap;
import java.util.HashSet;
import java.util.List;
import java.util.Map;
import java.util.Set;
import javax.lang.model.element.Element;
import javax.lang.model.element.ElementKind;
import javax.lang.model.element.Modifier;
import javax.lang.model.type.ArrayType;
import javax.lang.model.type.DeclaredType;
import javax.lang.model.type.TypeKind;
import javax.lang.model.type.TypeMirror;
import javax.tools.JavaCompiler;
import javax.tools.StandardJavaFileManager;
import javax.tools.ToolProvider;

/**
 * What can be read off the program of the rules of LANGUAGE.md, by the compiler's own trees. Rule 1
 * is FaceTest's. Where a rule says 'some', a fifth more is let pass.
 */
public final class LanguageTest extends TreePathScanner<Void, Void> {
    private static final Path PROGRAM = Path.of("src/main/java/RatchetDesk.java");
    private static final Map<String, Set<String>> LIBRARY = Map.of(
        "java.lang.String", Set.of("length", "charAt", "isEmpty", "equals", "indexOf", "substring", "toCharArray"),
        "java.lang.StringBuilder",
        Set.of("append", "charAt", "setCharAt", "setLength", "deleteCharAt", "reverse", "length", "toString"),
        "java.util.ArrayList", Set.of("add", "get", "set", "remove", "size", "isEmpty", "clear"),
        "java.util.List", Set.of("add", "get", "set", "remove", "size", "isEmpty", "clear", "of"),
        "java.lang.System", Set.of("arraycopy"),
        "java.util.Arrays", Set.of("copyOf", "copyOfRange", "fill"),
        "java.util.Iterator", Set.of("hasNext", "next"),
        "java.lang.Iterable", Set.of("iterator"),
        "java.lang.Comparable", Set.of("compareTo"));
    private static final Set<String> FUNCTIONS = Set.of("java.lang.Integer", "java.lang.Long", "java.lang.Math");
    private static final Set<String> TYPES = Set.of("java.lang.String", "java.lang.StringBuilder", "java.lang.Integer",
        "java.util.ArrayList", "java.util.List", "java.util.Iterator", "java.lang.Iterable", "java.lang.Comparable");
    private static final Set<String> EXCEPTIONS = Set.of("IllegalStateException", "IllegalArgumentException",
        "IndexOutOfBoundsException", "ArithmeticException", "UnsupportedOperationException", "NoSuchElementException",
        "RuntimeException");
    private static final Set<String> CONSTANTS =
        Set.of("int", "long", "boolean", "char", "java.lang.String", "int[]", "long[]", "char[]", "byte[]");
    private static final Set<String> ENUM_FIELDS = Set.of("int", "long", "boolean", "java.lang.String");
    private static final int MOST_CLASSES = 14, MOST_FIELDS = 24, MOST_PARAMETERS = 7, MOST_LINES = 72, MOST_DEPTH = 8;

    private final Trees trees;
    private final SourcePositions positions;
    private final CompilationUnitTree unit;
    private final Map<Element, Set<Element>> calls = new HashMap<>();
    private MethodTree method;
    private int classes;

    private LanguageTest(Trees trees, CompilationUnitTree unit) {
        this.trees = trees;
        this.unit = unit;
        positions = trees.getSourcePositions();
    }

    public static void main(String[] args) throws java.io.IOException {
        JavaCompiler compiler = ToolProvider.getSystemJavaCompiler();
        try (StandardJavaFileManager files = compiler.getStandardFileManager(null, null, null)) {
            JavacTask task = (JavacTask) compiler.getTask(null, files, null, List.of("-proc:none"), null,
                files.getJavaFileObjects(PROGRAM));
            CompilationUnitTree unit = task.parse().iterator().next();
            task.analyze();
            LanguageTest test = new LanguageTest(Trees.instance(task), unit);
            test.scan(unit, null);
            test.holdTheWhole();
        }
        Both.end();
    }

    private void holdTheWhole() {
        hold("no package line", unit.getPackage() == null);
        hold("rule 11: at most some twelve classes, not " + classes, classes <= MOST_CLASSES);
        int deepest = 0;
        for (Element e : calls.keySet()) {
            deepest = Math.max(deepest, depth(e, new HashSet<>()));
        }
        hold("rule 11: calls at most eight deep, not " + deepest, deepest <= MOST_DEPTH);
    }

    /** How many calls stand open at once from here; one that is open already is recursion, and does not count. */
    private int depth(Element from, Set<Element> open) {
        open.add(from);
        int deepest = 0;
        for (Element to : calls.getOrDefault(from, Set.of())) {
            if (!open.contains(to)) {
                deepest = Math.max(deepest, 1 + depth(to, open));
            }
        }
        open.remove(from);
        return deepest;
    }

    private static void hold(String what, boolean so) {
        Both.hold(what, so ? "so" : "not so", "so");
    }

    private long line(long position) {
        return unit.getLineMap().getLineNumber(position);
    }

    private void holdAt(String what, Tree tree, boolean so) {
        hold(what + ", line " + line(positions.getStartPosition(unit, tree)), so);
    }

    private TypeMirror typeOf(Tree tree) {
        return trees.getTypeMirror(TreePath.getPath(unit, tree));
    }

    private static boolean isOwn(String name) {
        return name.equals("RatchetDesk") || name.startsWith("RatchetDesk.");
    }

    private static String plainName(TypeMirror type) {
        return type instanceof DeclaredType declared ? declared.asElement().toString() : type.toString();
    }

    /** Rule 3; a constructor that is not written has no type in its tree. */
    private static boolean isAllowed(TypeMirror type) {
        if (type instanceof ArrayType row) {
            TypeMirror part = row.getComponentType();
            boolean two = part instanceof ArrayType inner && inner.getComponentType().getKind().isPrimitive();
            return two || part.getKind().isPrimitive() || part.getKind() == TypeKind.TYPEVAR || isOwn(plainName(part));
        }
        return type.getKind().isPrimitive() || type.getKind() == TypeKind.VOID || type.getKind() == TypeKind.TYPEVAR
            || isOwn(plainName(type)) || TYPES.contains(plainName(type));
    }

    private void addCall(Element to) {
        if (method != null) {
            Element from = trees.getElement(TreePath.getPath(unit, method));
            calls.computeIfAbsent(from, e -> new HashSet<>()).add(to);
        }
    }

    @Override
    public Void visitClass(ClassTree tree, Void none) {
        classes++;
        List<VariableTree> fields = tree.getMembers().stream().filter(m -> m instanceof VariableTree)
            .map(m -> (VariableTree) m).filter(v -> !v.getModifiers().getFlags().contains(Modifier.STATIC)).toList();
        hold("rule 11: some twenty fields in " + tree.getSimpleName() + ", not " + fields.size(),
            fields.size() <= MOST_FIELDS);
        if (tree.getKind() == Tree.Kind.ENUM) {
            for (VariableTree field : fields) {
                holdAt("rule 2: an enum's fields", field, ENUM_FIELDS.contains(typeOf(field).toString()));
            }
        }
        hold("rule 5: no static initialiser block in " + tree.getSimpleName(),
            tree.getMembers().stream().noneMatch(m -> m.getKind() == Tree.Kind.BLOCK));
        return super.visitClass(tree, none);
    }

    @Override
    public Void visitVariable(VariableTree tree, Void none) {
        Set<Modifier> flags = tree.getModifiers().getFlags();
        boolean caught = getCurrentPath().getParentPath().getLeaf() instanceof CatchTree;
        TypeMirror type = trees.getTypeMirror(getCurrentPath());
        holdAt("rule 3: " + type + " of " + tree.getName(), tree, caught || isAllowed(type));
        boolean enumConstant = trees.getElement(getCurrentPath()).getKind() == ElementKind.ENUM_CONSTANT;
        if (flags.contains(Modifier.STATIC) && !enumConstant) {
            holdAt("rule 5: final is " + tree.getName(), tree, flags.contains(Modifier.FINAL));
            boolean values = tree.getInitializer() instanceof MethodInvocationTree call
                && call.toString().endsWith("values()");
            holdAt("rule 5: " + type + " of " + tree.getName(), tree, values || CONSTANTS.contains(type.toString()));
            boolean bare = tree.getInitializer() instanceof NewArrayTree row && row.getInitializers() == null;
            holdAt("rule 5: written out is " + tree.getName(), tree, !bare);
        }
        return super.visitVariable(tree, none);
    }

    @Override
    public Void visitMethod(MethodTree tree, Void none) {
        MethodTree outer = method;
        method = tree;
        long from = positions.getStartPosition(unit, tree), to = positions.getEndPosition(unit, tree);
        // A constructor that is not written has no place of its own.
        long lines = to < 0 ? 0 : line(to) - line(from) + 1;
        hold("rule 11: some sixty lines in " + tree.getName() + ", not " + lines, lines <= MOST_LINES);
        hold("rule 11: seven parameters of " + tree.getName(), tree.getParameters().size() <= MOST_PARAMETERS);
        if (tree.getReturnType() != null) {
            holdAt("rule 3: what " + tree.getName() + " answers", tree, isAllowed(typeOf(tree.getReturnType())));
        }
        super.visitMethod(tree, none);
        method = outer;
        return null;
    }

    @Override
    public Void visitMethodInvocation(MethodInvocationTree tree, Void none) {
        Element to = trees.getElement(getCurrentPath());
        String owner = plainName(to.getEnclosingElement().asType()), name = to.getSimpleName().toString();
        if (isOwn(owner)) {
            addCall(to);
        } else if (!name.equals("<init>") && !isCloneOfRow(tree)) {
            boolean listed = LIBRARY.getOrDefault(owner, Set.of()).contains(name)
                || FUNCTIONS.contains(owner) && to.getModifiers().contains(Modifier.STATIC) && !name.endsWith("Exact");
            holdAt("rule 4: " + owner + "." + name, tree, listed);
        }
        return super.visitMethodInvocation(tree, none);
    }

    private boolean isCloneOfRow(MethodInvocationTree tree) {
        return tree.getMethodSelect() instanceof MemberSelectTree select
            && select.getIdentifier().contentEquals("clone") && typeOf(select.getExpression()) instanceof ArrayType;
    }

    @Override
    public Void visitNewClass(NewClassTree tree, Void none) {
        if (!(getCurrentPath().getParentPath().getLeaf() instanceof ThrowTree)) {
            TypeMirror made = trees.getTypeMirror(getCurrentPath());
            holdAt("rule 4: " + tree, tree, isAllowed(made) || tree.getClassBody() != null);
            addCall(trees.getElement(getCurrentPath()));
        }
        return super.visitNewClass(tree, none);
    }

    @Override
    public Void visitThrow(ThrowTree tree, Void none) {
        holdAt("rule 6: no throw in a constructor", tree, method != null && method.getReturnType() != null);
        ExpressionTree thrown = tree.getExpression();
        boolean plain = thrown instanceof NewClassTree made && EXCEPTIONS.contains(made.getIdentifier().toString())
            && made.getArguments().size() <= 1 && made.getArguments().stream().allMatch(a -> a instanceof LiteralTree);
        holdAt("rule 6: throw new E() or throw new E(\"a written text\")", tree, plain);
        return super.visitThrow(tree, none);
    }

    @Override
    public Void visitTry(TryTree tree, Void none) {
        holdAt("rule 6: no finally, no resources", tree,
            tree.getFinallyBlock() == null && tree.getResources().isEmpty());
        boolean[] throwing = {false};
        new TreeScanner<Void, Void>() {
            @Override
            public Void visitThrow(ThrowTree inner, Void nothing) {
                throwing[0] = true;
                return null;
            }
        }.scan(method, null);
        holdAt("rule 6: try never in the very method that holds the throw", tree, !throwing[0]);
        return super.visitTry(tree, none);
    }

    @Override
    public Void visitCatch(CatchTree tree, Void none) {
        String name = tree.getParameter().getName().toString();
        holdAt("rule 6: a catch of " + tree.getParameter().getType(), tree,
            EXCEPTIONS.contains(tree.getParameter().getType().toString()));
        boolean[] used = {false};
        new TreeScanner<Void, Void>() {
            @Override
            public Void visitIdentifier(IdentifierTree inner, Void nothing) {
                used[0] |= inner.getName().contentEquals(name);
                return null;
            }
        }.scan(tree.getBlock(), null);
        holdAt("rule 6: a catch leaves the exception alone", tree, !used[0]);
        return super.visitCatch(tree, none);
    }

    private void holdCondition(Tree loop, ExpressionTree condition) {
        ExpressionTree bare = condition instanceof ParenthesizedTree p ? p.getExpression() : condition;
        boolean always = bare == null || bare instanceof LiteralTree;
        holdAt("rule 9: a loop's end is seen from its own lines", loop, !always);
    }

    @Override
    public Void visitForLoop(ForLoopTree tree, Void none) {
        holdCondition(tree, tree.getCondition());
        return super.visitForLoop(tree, none);
    }

    @Override
    public Void visitWhileLoop(WhileLoopTree tree, Void none) {
        holdCondition(tree, tree.getCondition());
        return super.visitWhileLoop(tree, none);
    }

    @Override
    public Void visitDoWhileLoop(DoWhileLoopTree tree, Void none) {
        holdCondition(tree, tree.getCondition());
        return super.visitDoWhileLoop(tree, none);
    }

    @Override
    public Void visitBinary(BinaryTree tree, Void none) {
        String left = typeOf(tree.getLeftOperand()).toString(), right = typeOf(tree.getRightOperand()).toString();
        Set<String> boxes = Set.of("java.lang.String", "java.lang.Integer");
        if (tree.getKind() == Tree.Kind.EQUAL_TO || tree.getKind() == Tree.Kind.NOT_EQUAL_TO) {
            holdAt("rule 6: no == between texts", tree, !(boxes.contains(left) && boxes.contains(right)));
        }
        if (tree.getKind() == Tree.Kind.PLUS) {
            holdAt("rule 10: texts are joined by StringBuilder", tree,
                !left.equals("java.lang.String") && !right.equals("java.lang.String"));
        }
        return super.visitBinary(tree, none);
    }

    @Override
    public Void visitLiteral(LiteralTree tree, Void none) {
        if (tree.getValue() instanceof String || tree.getValue() instanceof Character) {
            holdAt("rule 3: characters 0 to 255 alone", tree,
                tree.getValue().toString().chars().allMatch(c -> c < 256));
        }
        return super.visitLiteral(tree, none);
    }

    @Override
    public Void visitLambdaExpression(LambdaExpressionTree tree, Void none) {
        holdAt("rule 2: no lambda", tree, false);
        return super.visitLambdaExpression(tree, none);
    }

    @Override
    public Void visitMemberReference(MemberReferenceTree tree, Void none) {
        holdAt("rule 2: no method reference", tree, false);
        return super.visitMemberReference(tree, none);
    }

    @Override
    public Void visitSynchronized(SynchronizedTree tree, Void none) {
        holdAt("rule 6: no synchronized", tree, false);
        return super.visitSynchronized(tree, none);
    }

    @Override
    public Void visitAssert(AssertTree tree, Void none) {
        holdAt("rule 6: no assert", tree, false);
        return super.visitAssert(tree, none);
    }
}
