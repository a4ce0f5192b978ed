import com.sun.source.tree.CatchTree;
import com.sun.source.tree.ClassTree;
import com.sun.source.tree.CompilationUnitTree;
import com.sun.source.tree.DoWhileLoopTree;
import com.sun.source.tree.ExpressionTree;
import com.sun.source.tree.ForLoopTree;
import com.sun.source.tree.LambdaExpressionTree;
import com.sun.source.tree.LiteralTree;
import com.sun.source.tree.MemberReferenceTree;
import com.sun.source.tree.MethodInvocationTree;
import com.sun.source.tree.MethodTree;
import com.sun.source.tree.NewArrayTree;
import com.sun.source.tree.NewClassTree;
import com.sun.source.tree.SynchronizedTree;
import com.sun.source.tree.ThrowTree;
import com.sun.source.tree.Tree;
import com.sun.source.tree.TryTree;
import com.sun.source.tree.VariableTree;
import com.sun.source.tree.WhileLoopTree;
import com.sun.source.util.JavacTask;
import com.sun.source.util.SourcePositions;
import com.sun.source.util.TreePathScanner;
import com.sun.source.util.Trees;
import java.nio.file.Path;
import java.util.HashMap;
import java.util.HashSet;
import java.util.List;
import java.util.Map;
import java.util.Set;
import java.util.TreeSet;
import javax.lang.model.element.Element;
import javax.lang.model.element.Modifier;
import javax.tools.JavaCompiler;
import javax.tools.StandardJavaFileManager;
import javax.tools.ToolProvider;

/**
 * What can be read off the program of the rules of LANGUAGE.md, by the compiler's own trees. Where
 * the program does with less than a rule allows (no try, no while, no object made by a call), less
 * is what is held here. The face itself is FaceTest's.
 */
public final class LanguageTest extends TreePathScanner<Void, Void> {
    private static final Path PROGRAM = Path.of("src/main/java/RatchetDesk.java");
    private static final Set<String> LIBRARY = Set.of("java.lang.System.arraycopy");
    private static final Set<String> EXCEPTIONS =
        Set.of("IndexOutOfBoundsException", "IllegalArgumentException", "IllegalStateException");
    private static final int MOST_CLASSES = 12, MOST_FIELDS = 20, MOST_PARAMETERS = 7, MOST_LINES = 60, MOST_DEPTH = 8;

    private final Trees trees;
    private final SourcePositions positions;
    private final CompilationUnitTree unit;
    private final Map<Element, Set<Element>> calls = new HashMap<>();
    private final Set<String> used = new TreeSet<>();
    private MethodTree method;
    private int classes;

    private LanguageTest(Trees trees, CompilationUnitTree unit) {
        this.trees = trees;
        this.unit = unit;
        positions = trees.getSourcePositions();
    }

    public static void main(String[] args) throws java.io.IOException {
        JavaCompiler compiler = ToolProvider.getSystemJavaCompiler();
        try (StandardJavaFileManager files = compiler.getStandardFileManager(null, null, null)) {
            JavacTask task = (JavacTask) compiler.getTask(null, files, null, List.of("-proc:none"), null,
                files.getJavaFileObjects(PROGRAM));
            CompilationUnitTree unit = task.parse().iterator().next();
            task.analyze();
            LanguageTest test = new LanguageTest(Trees.instance(task), unit);
            test.scan(unit, null);
            test.holdTheWhole();
        }
        Both.end();
    }

    private void holdTheWhole() {
        hold("no package line", unit.getPackage() == null);
        hold("no import", unit.getImports().isEmpty());
        hold("rule 11: at most some twelve classes, not " + classes, classes <= MOST_CLASSES);
        Set<String> foreign = new TreeSet<>(used);
        foreign.removeAll(LIBRARY);
        Both.hold("rule 4: only the library that it lists", foreign.toString(), "[]");
        int deepest = 0;
        for (Element e : calls.keySet()) {
            deepest = Math.max(deepest, depth(e, new HashSet<>()));
        }
        hold("rule 11: calls at most eight deep, not " + deepest, deepest <= MOST_DEPTH);
    }

    private int depth(Element from, Set<Element> open) {
        hold("rule 8: no recursion, by " + from, open.add(from));
        int below = 0;
        for (Element to : calls.getOrDefault(from, Set.of())) {
            if (!open.contains(to)) {
                below = Math.max(below, depth(to, open));
            } else {
                hold("rule 8: no recursion, by " + to, false);
            }
        }
        open.remove(from);
        return below + 1;
    }

    private static void hold(String what, boolean so) {
        Both.hold(what, so ? "so" : "not so", "so");
    }

    private long line(long position) {
        return unit.getLineMap().getLineNumber(position);
    }

    private void none(String what, Tree tree) {
        hold(what + ", line " + line(positions.getStartPosition(unit, tree)), false);
    }

    private boolean inConstructor() {
        return method == null || method.getReturnType() == null;
    }

    private void addCall(Element to) {
        if (method != null) {
            Element from = trees.getElement(trees.getPath(unit, method));
            calls.computeIfAbsent(from, e -> new HashSet<>()).add(to);
        }
    }

    @Override
    public Void visitClass(ClassTree tree, Void none) {
        classes++;
        hold("rule 2: no local class, " + tree.getSimpleName(), method == null);
        long fields = tree.getMembers().stream()
            .filter(m -> m instanceof VariableTree v && !v.getModifiers().getFlags().contains(Modifier.STATIC)).count();
        hold("rule 11: some twenty fields in " + tree.getSimpleName() + ", not " + fields, fields <= MOST_FIELDS);
        hold("rule 5: no static initialiser block in " + tree.getSimpleName(),
            tree.getMembers().stream().noneMatch(m -> m.getKind() == Tree.Kind.BLOCK));
        return super.visitClass(tree, none);
    }

    @Override
    public Void visitVariable(VariableTree tree, Void none) {
        Set<Modifier> flags = tree.getModifiers().getFlags();
        if (flags.contains(Modifier.STATIC)) {
            hold("rule 5: final is " + tree.getName(), flags.contains(Modifier.FINAL));
            hold("rule 5: written out is " + tree.getName(), !(tree.getInitializer() instanceof NewArrayTree row)
                || row.getInitializers() != null);
        }
        return super.visitVariable(tree, none);
    }

    @Override
    public Void visitMethod(MethodTree tree, Void none) {
        method = tree;
        long from = positions.getStartPosition(unit, tree), to = positions.getEndPosition(unit, tree);
        // A constructor that is not written has no place of its own.
        long lines = to < 0 ? 0 : line(to) - line(from) + 1;
        hold("rule 11: some sixty lines in " + tree.getName() + ", not " + lines, lines <= MOST_LINES);
        hold("rule 11: seven parameters of " + tree.getName(), tree.getParameters().size() <= MOST_PARAMETERS);
        super.visitMethod(tree, none);
        method = null;
        return null;
    }

    @Override
    public Void visitMethodInvocation(MethodInvocationTree tree, Void none) {
        Element to = trees.getElement(getCurrentPath());
        String owner = to.getEnclosingElement().toString();
        if (owner.startsWith("RatchetDesk")) {
            addCall(to);
        } else if (!to.getSimpleName().contentEquals("<init>")) {
            used.add(owner + "." + to.getSimpleName());
        }
        return super.visitMethodInvocation(tree, none);
    }

    @Override
    public Void visitNewClass(NewClassTree tree, Void none) {
        boolean thrown = getCurrentPath().getParentPath().getLeaf() instanceof ThrowTree;
        if (!thrown) {
            Element made = trees.getElement(getCurrentPath());
            hold("rule 12, and the room: " + tree + " is made in a constructor", inConstructor());
            addCall(made);
        }
        return super.visitNewClass(tree, none);
    }

    @Override
    public Void visitNewArray(NewArrayTree tree, Void none) {
        hold("rule 12, and the room: " + tree + " is made in a constructor", inConstructor());
        return super.visitNewArray(tree, none);
    }

    @Override
    public Void visitThrow(ThrowTree tree, Void none) {
        hold("rule 6: no throw in a constructor", !inConstructor());
        ExpressionTree thrown = tree.getExpression();
        boolean plain = thrown instanceof NewClassTree made && EXCEPTIONS.contains(made.getIdentifier().toString())
            && made.getArguments().stream().allMatch(a -> a instanceof LiteralTree);
        hold("rule 6: throw new E(\"a written text\"), " + tree, plain);
        return super.visitThrow(tree, none);
    }

    @Override
    public Void visitForLoop(ForLoopTree tree, Void none) {
        hold("rule 9: a loop's end is seen from its own lines, " + tree.getCondition(), tree.getCondition() != null);
        return super.visitForLoop(tree, none);
    }

    @Override
    public Void visitWhileLoop(WhileLoopTree tree, Void none) {
        none("rule 9: while", tree);
        return super.visitWhileLoop(tree, none);
    }

    @Override
    public Void visitDoWhileLoop(DoWhileLoopTree tree, Void none) {
        none("rule 9: do", tree);
        return super.visitDoWhileLoop(tree, none);
    }

    @Override
    public Void visitLambdaExpression(LambdaExpressionTree tree, Void none) {
        none("rule 2: lambda", tree);
        return super.visitLambdaExpression(tree, none);
    }

    @Override
    public Void visitMemberReference(MemberReferenceTree tree, Void none) {
        none("rule 2: method reference", tree);
        return super.visitMemberReference(tree, none);
    }

    @Override
    public Void visitTry(TryTree tree, Void none) {
        none("rule 6: try", tree);
        return super.visitTry(tree, none);
    }

    @Override
    public Void visitCatch(CatchTree tree, Void none) {
        none("rule 6: catch", tree);
        return super.visitCatch(tree, none);
    }

    @Override
    public Void visitSynchronized(SynchronizedTree tree, Void none) {
        none("rule 6: synchronized", tree);
        return super.visitSynchronized(tree, none);
    }
}
