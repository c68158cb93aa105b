import com.sun.source.tree.AssertTree;
import com.sun.source.tree.BinaryTree;
import com.sun.source.tree.BlockTree;
import com.sun.source.tree.ClassTree;
import com.sun.source.tree.CompilationUnitTree;
import com.sun.source.tree.LambdaExpressionTree;
import com.sun.source.tree.MemberReferenceTree;
import com.sun.source.tree.MethodInvocationTree;
import com.sun.source.tree.MethodTree;
import com.sun.source.tree.NewClassTree;
import com.sun.source.tree.SynchronizedTree;
import com.sun.source.tree.ThrowTree;
import com.sun.source.tree.Tree;
import com.sun.source.tree.TryTree;
import com.sun.source.util.JavacTask;
import com.sun.source.util.SourcePositions;
import com.sun.source.util.TreePathScanner;
import com.sun.source.util.Trees;
import java.nio.file.Path;
import java.util.HashMap;
import java.util.List;
import java.util.Map;
import java.util.Set;
import java.util.TreeSet;
import javax.lang.model.element.Element;
import javax.lang.model.element.ElementKind;
import javax.tools.JavaCompiler;
import javax.tools.StandardJavaFileManager;
import javax.tools.ToolProvider;

/**
 * The source keeps to what LANGUAGE.md's rules 2, 4, 5, 6, 8, 10 and 11 ask, as far as its tree tells. What the rules
 * allow and the class has no need of (try, recursion, more of the library) is refused too, until it is needed.
 */
final class FormTest extends TreePathScanner<Void, String> {
    private static final int MOST_LINES = 60;
    private static final int MOST_DEPTH = 8;
    private static final Set<String> IMPORTS = Set.of("java.util.ArrayList", "java.util.List", "java.util.Arrays");
    private static final Set<String> LIBRARY = Set.of("ArrayList.add", "ArrayList.get", "ArrayList.set",
            "ArrayList.remove", "ArrayList.size", "ArrayList.isEmpty", "ArrayList.clear", "System.arraycopy",
            "Arrays.copyOf", "Arrays.copyOfRange", "Arrays.fill", "Array.clone", "Math.max", "Math.min", "Math.abs");
    private static final Set<String> THROWN = Set.of("IllegalArgumentException", "IllegalStateException");

    private final Trees trees;
    private final Map<String, Set<String>> calls = new HashMap<>();

    private FormTest(Trees trees) {
        this.trees = trees;
    }

    public static void main(String[] args) throws Exception {
        JavaCompiler compiler = ToolProvider.getSystemJavaCompiler();
        try (StandardJavaFileManager files = compiler.getStandardFileManager(null, null, null)) {
            JavacTask task = (JavacTask) compiler.getTask(null, files, null, List.of("-proc:none"), null,
                    files.getJavaFileObjects(Path.of("src/main/java/FriendBackup.java")));
            CompilationUnitTree unit = task.parse().iterator().next();
            task.analyze();
            FormTest form = new FormTest(Trees.instance(task));
            form.imports(unit);
            form.scan(unit, "");
            form.depths();
        }
        Check.end();
    }

    private void imports(CompilationUnitTree unit) {
        Check.due("a package line is there", unit.getPackageName() != null, false);
        for (var line : unit.getImports()) {
            String name = line.getQualifiedIdentifier().toString();
            Check.due("import of " + name + " is allowed", IMPORTS.contains(name) && !line.isStatic(), true);
        }
    }

    private void depths() {
        for (String method : calls.keySet()) {
            Check.due("calls below " + method + " are few", depth(method, 0) <= MOST_DEPTH, true);
        }
    }

    /** Stops just beyond what is allowed, where a method that calls itself would never end. */
    private int depth(String method, int above) {
        int deepest = 0;
        if (above <= MOST_DEPTH) {
            for (String called : calls.getOrDefault(method, Set.of())) {
                deepest = Math.max(deepest, depth(called, above + 1));
            }
        }
        return 1 + deepest;
    }

    private void refuse(Tree tree) {
        Check.due(tree + " stands there", true, false);
    }

    private static boolean isOwn(Element element) {
        return element.toString().startsWith("FriendBackup") || element.getKind() == ElementKind.PACKAGE;
    }

    private static String nameOf(Element method) {
        return method.getEnclosingElement().getSimpleName() + "." + method;
    }

    @Override
    public Void visitMethod(MethodTree method, String outer) {
        String name = nameOf(trees.getElement(getCurrentPath()));
        calls.putIfAbsent(name, new TreeSet<>());
        CompilationUnitTree unit = getCurrentPath().getCompilationUnit();
        SourcePositions places = trees.getSourcePositions();
        long first = unit.getLineMap().getLineNumber(Math.max(places.getStartPosition(unit, method), 0));
        long last = unit.getLineMap().getLineNumber(Math.max(places.getEndPosition(unit, method), 0));
        Check.due(name + " is short", last - first < MOST_LINES, true);
        return super.visitMethod(method, name);
    }

    @Override
    public Void visitMethodInvocation(MethodInvocationTree call, String method) {
        Element called = trees.getElement(getCurrentPath());
        Element owner = called.getEnclosingElement();
        if (isOwn(owner)) {
            calls.computeIfAbsent(method, none -> new TreeSet<>()).add(nameOf(called));
        } else if (!called.getSimpleName().contentEquals("<init>")) {
            String name = owner.getSimpleName() + "." + called.getSimpleName();
            Check.due(name + " is in the list", LIBRARY.contains(name), true);
        }
        return super.visitMethodInvocation(call, method);
    }

    @Override
    public Void visitNewClass(NewClassTree made, String method) {
        Element constructor = trees.getElement(getCurrentPath());
        Element type = constructor.getEnclosingElement();
        String name = type.getSimpleName().toString();
        if (isOwn(type)) {
            calls.computeIfAbsent(method, none -> new TreeSet<>()).add(nameOf(constructor));
        } else {
            Check.due("new " + name + " is allowed", name.equals("ArrayList") || THROWN.contains(name), true);
        }
        Check.due("a class without a name is there", made.getClassBody() != null, false);
        return super.visitNewClass(made, method);
    }

    @Override
    public Void visitThrow(ThrowTree thrown, String method) {
        Check.due(thrown + " makes what it throws", thrown.getExpression() instanceof NewClassTree, true);
        String name = method.substring(method.indexOf('.') + 1, method.indexOf('('));
        Check.due(thrown + " stands in a constructor of " + name, method.startsWith(name + "."), false);
        return super.visitThrow(thrown, method);
    }

    @Override
    public Void visitBinary(BinaryTree both, String method) {
        boolean isText = trees.getTypeMirror(getCurrentPath()).toString().equals("java.lang.String");
        Check.due(both + " joins texts", isText, false);
        return super.visitBinary(both, method);
    }

    @Override
    public Void visitBlock(BlockTree block, String method) {
        boolean isInitialiser = getCurrentPath().getParentPath().getLeaf() instanceof ClassTree;
        Check.due(block + " is an initialiser", isInitialiser, false);
        return super.visitBlock(block, method);
    }

    @Override
    public Void visitLambdaExpression(LambdaExpressionTree tree, String method) {
        refuse(tree);
        return null;
    }

    @Override
    public Void visitMemberReference(MemberReferenceTree tree, String method) {
        refuse(tree);
        return null;
    }

    @Override
    public Void visitSynchronized(SynchronizedTree tree, String method) {
        refuse(tree);
        return null;
    }

    @Override
    public Void visitAssert(AssertTree tree, String method) {
        refuse(tree);
        return null;
    }

    @Override
    public Void visitTry(TryTree tree, String method) {
        refuse(tree);
        return null;
    }
}
