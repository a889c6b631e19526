import com.sun.source.tree.ClassTree;
import com.sun.source.tree.CompilationUnitTree;
import com.sun.source.tree.LineMap;
import com.sun.source.tree.MethodInvocationTree;
import com.sun.source.tree.MethodTree;
import com.sun.source.tree.NewArrayTree;
import com.sun.source.tree.NewClassTree;
import com.sun.source.tree.Tree;
import com.sun.source.tree.VariableTree;
import com.sun.source.util.JavacTask;
import com.sun.source.util.TreePath;
import com.sun.source.util.TreePathScanner;
import com.sun.source.util.Trees;
import java.io.IOException;
import java.nio.file.Path;
import java.util.EnumSet;
import java.util.HashMap;
import java.util.HashSet;
import java.util.List;
import java.util.Map;
import java.util.Set;
import javax.lang.model.element.Element;
import javax.lang.model.element.Modifier;
import javax.lang.model.element.TypeElement;
import javax.tools.JavaCompiler;
import javax.tools.StandardJavaFileManager;
import javax.tools.ToolProvider;

/** The rules of LANGUAGE.md, as far as they can be seen in the parts of the program. */
final class LanguageTest extends TreePathScanner<Void, Void> {
    private static final int MOST_CLASSES = 12;
    private static final int MOST_FIELDS = 20;
    private static final int MOST_PARAMETERS = 7;
    private static final int MOST_LINES = 60;
    private static final int DEEPEST_CALL = 8;

    /** All that the program uses of the library. */
    private static final Set<String> LIBRARY = Set.of("java.lang.Math.max", "java.lang.Math.min",
            "java.lang.Math.abs", "java.lang.System.arraycopy");

    /** What the rules forbid, and casts and texts, which they allow: the program has none. */
    private static final Set<Tree.Kind> FORBIDDEN = EnumSet.of(Tree.Kind.THROW, Tree.Kind.TRY,
            Tree.Kind.ASSERT, Tree.Kind.SYNCHRONIZED, Tree.Kind.LAMBDA_EXPRESSION,
            Tree.Kind.MEMBER_REFERENCE, Tree.Kind.TYPE_CAST, Tree.Kind.INSTANCE_OF,
            Tree.Kind.ANNOTATION, Tree.Kind.STRING_LITERAL, Tree.Kind.DOUBLE_LITERAL,
            Tree.Kind.FLOAT_LITERAL);

    private final Trees trees;
    private final CompilationUnitTree unit;
    private final Map<Element, Set<Element>> callsOf = new HashMap<>();
    private int classes = 0;

    private LanguageTest(Trees trees, CompilationUnitTree unit) {
        this.trees = trees;
        this.unit = unit;
    }

    static void run() throws IOException {
        JavaCompiler compiler = ToolProvider.getSystemJavaCompiler();
        try (StandardJavaFileManager files = compiler.getStandardFileManager(null, null, null)) {
            JavacTask task = (JavacTask) compiler.getTask(null, files, null, List.of("-proc:none"),
                    null, files.getJavaFileObjects(Path.of("src/main/java/LentSounds.java")));
            CompilationUnitTree unit = task.parse().iterator().next();
            task.analyze();
            new LanguageTest(Trees.instance(task), unit).check();
        }
    }

    private void check() {
        Check.that("rules 1 to 6 and 11: what the program is made of");
        Check.holds(unit.getPackageName() == null && unit.getImports().isEmpty(),
                "it has a package or imports");
        scan(unit, null);
        Check.holds(classes <= MOST_CLASSES, "it has " + classes + " classes");
        Check.that("rules 8 and 11: calls are no recursion, and at most eight deep");
        callsOf.keySet().forEach(method -> Check.holds(
                depth(method, new HashSet<>()) <= DEEPEST_CALL, method + " is the first of calls that are too deep, or in a ring"));
    }

    private int depth(Element method, Set<Element> open) {
        if (!open.add(method)) {
            return DEEPEST_CALL + 1;
        }
        int deepest = 0;
        for (Element next : callsOf.getOrDefault(method, Set.of())) {
            deepest = Math.max(deepest, depth(next, open));
        }
        open.remove(method);
        return deepest + 1;
    }

    private void never(Tree tree) {
        Check.holds(false, "line " + line(trees.getSourcePositions().getStartPosition(unit, tree))
                + " has a " + tree.getKind());
    }

    private long line(long position) {
        LineMap lines = unit.getLineMap();
        return lines.getLineNumber(position);
    }

    /** The method or constructor around; a field's initialiser counts as a part of its class. */
    private TreePath around() {
        TreePath path = getCurrentPath().getParentPath();
        while (!(path.getLeaf() instanceof MethodTree) && !(path.getLeaf() instanceof ClassTree)) {
            path = path.getParentPath();
        }
        return path;
    }

    @Override
    public Void scan(Tree tree, Void nothing) {
        if (tree != null && FORBIDDEN.contains(tree.getKind())) {
            never(tree);
        }
        return super.scan(tree, nothing);
    }

    @Override
    public Void visitClass(ClassTree tree, Void nothing) {
        classes++;
        Tree parent = getCurrentPath().getParentPath().getLeaf();
        boolean isOutermost = parent == unit;
        Check.holds(isOutermost || parent instanceof ClassTree
                && tree.getModifiers().getFlags().contains(Modifier.STATIC)
                && tree.getModifiers().getFlags().contains(Modifier.PRIVATE),
                tree.getSimpleName() + " is not private and static");
        long fields = tree.getMembers().stream().filter(member ->
                member instanceof VariableTree field && !field.getModifiers().getFlags().contains(Modifier.STATIC)).count();
        Check.holds(fields <= MOST_FIELDS, tree.getSimpleName() + " has " + fields + " fields");
        return super.visitClass(tree, nothing);
    }

    @Override
    public Void visitVariable(VariableTree tree, Void nothing) {
        Set<Modifier> flags = tree.getModifiers().getFlags();
        Check.holds(!flags.contains(Modifier.STATIC) || flags.contains(Modifier.FINAL),
                tree.getName() + " is static and not final");
        return super.visitVariable(tree, nothing);
    }

    @Override
    public Void visitMethod(MethodTree tree, Void nothing) {
        long first = line(trees.getSourcePositions().getStartPosition(unit, tree));
        long last = line(trees.getSourcePositions().getEndPosition(unit, tree));
        Check.holds(last - first < MOST_LINES, tree.getName() + " is too long");
        Check.holds(tree.getParameters().size() <= MOST_PARAMETERS,
                tree.getName() + " has too many parameters");
        callsOf.putIfAbsent(trees.getElement(getCurrentPath()), new HashSet<>());
        return super.visitMethod(tree, nothing);
    }

    @Override
    public Void visitMethodInvocation(MethodInvocationTree tree, Void nothing) {
        Element called = trees.getElement(getCurrentPath());
        String owner = ((TypeElement) called.getEnclosingElement()).getQualifiedName().toString();
        if (owner.startsWith("LentSounds")) {
            noteCall(called);
        } else if (!called.getSimpleName().contentEquals("<init>")) {
            Check.holds(LIBRARY.contains(owner + "." + called.getSimpleName()),
                    "it calls " + owner + "." + called);
        }
        return super.visitMethodInvocation(tree, nothing);
    }

    private void noteCall(Element called) {
        TreePath caller = around();
        if (caller.getLeaf() instanceof MethodTree) {
            callsOf.computeIfAbsent(trees.getElement(caller), method -> new HashSet<>())
                    .add(called);
        }
    }

    /** That no call makes an object keeps all runs in one room (rule 12). */
    private void madeInConstructor(Tree tree) {
        TreePath path = around();
        if (path.getLeaf() instanceof MethodTree method && method.getReturnType() != null) {
            never(tree);
        }
    }

    @Override
    public Void visitNewClass(NewClassTree tree, Void nothing) {
        madeInConstructor(tree);
        noteCall(trees.getElement(getCurrentPath()));
        return super.visitNewClass(tree, nothing);
    }

    @Override
    public Void visitNewArray(NewArrayTree tree, Void nothing) {
        madeInConstructor(tree);
        return super.visitNewArray(tree, nothing);
    }
}
