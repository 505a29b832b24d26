import com.sun.source.tree.BinaryTree;
import com.sun.source.tree.ClassTree;
import com.sun.source.tree.CompilationUnitTree;
import com.sun.source.tree.ExpressionTree;
import com.sun.source.tree.IdentifierTree;
import com.sun.source.tree.LiteralTree;
import com.sun.source.tree.MemberSelectTree;
import com.sun.source.tree.MethodInvocationTree;
import com.sun.source.tree.MethodTree;
import com.sun.source.tree.NewClassTree;
import com.sun.source.tree.Tree;
import com.sun.source.util.JavacTask;
import com.sun.source.util.TreePath;
import com.sun.source.util.TreePathScanner;
import com.sun.source.util.Trees;
import java.io.IOException;
import java.nio.file.Path;
import java.util.ArrayList;
import java.util.LinkedHashMap;
import java.util.LinkedHashSet;
import java.util.List;
import java.util.Map;
import java.util.Set;
import java.util.TreeSet;
import javax.lang.model.element.Element;
import javax.lang.model.element.ExecutableElement;
import javax.lang.model.element.Modifier;
import javax.lang.model.element.TypeElement;
import javax.lang.model.element.VariableElement;
import javax.lang.model.type.TypeMirror;
import javax.tools.JavaCompiler;
import javax.tools.StandardJavaFileManager;
import javax.tools.ToolProvider;

/** The class as the compiler reads it: its parts with their names and types found out, and who calls whom. */
final class ClassText extends TreePathScanner<Void, Void> {
    /** A part of the text, with the method and the loops around it. */
    static final class Part {
        final Tree tree;
        final TreePath path;
        final String method;
        final boolean inLoop;

        Part(Tree tree, TreePath path, String method, boolean inLoop) {
            this.tree = tree;
            this.path = path;
            this.method = method;
            this.inLoop = inLoop;
        }
    }

    private static final Set<Tree.Kind> LOOPS = Set.of(
            Tree.Kind.FOR_LOOP, Tree.Kind.ENHANCED_FOR_LOOP, Tree.Kind.WHILE_LOOP, Tree.Kind.DO_WHILE_LOOP);

    final List<Part> parts = new ArrayList<>();
    final Map<String, MethodTree> methods = new LinkedHashMap<>();
    final Map<String, Set<String>> calls = new LinkedHashMap<>();
    /** Methods of others that are called, and the types of what they are given. */
    final Set<String> library = new TreeSet<>();
    final CompilationUnitTree unit;
    private final Trees trees;
    private final JavacTask task;
    private final List<ExecutableElement> own = new ArrayList<>();
    private final List<TypeElement> ownTypes = new ArrayList<>();
    private String method = "";
    private int loops = 0;

    ClassText(Path file) throws IOException {
        JavaCompiler compiler = ToolProvider.getSystemJavaCompiler();
        StandardJavaFileManager files = compiler.getStandardFileManager(null, null, null);
        task = (JavacTask) compiler.getTask(
                null, files, null, List.of("-proc:none"), null, files.getJavaFileObjects(file));
        unit = task.parse().iterator().next();
        task.analyze();
        trees = Trees.instance(task);
        new Names().scan(unit, null);
        scan(unit, null);
    }

    /** All methods are known before the first call is looked at. */
    private final class Names extends TreePathScanner<Void, Void> {
        @Override
        public Void visitClass(ClassTree tree, Void nothing) {
            ownTypes.add((TypeElement) trees.getElement(getCurrentPath()));
            return super.visitClass(tree, nothing);
        }

        @Override
        public Void visitMethod(MethodTree tree, Void nothing) {
            ExecutableElement element = (ExecutableElement) trees.getElement(getCurrentPath());
            own.add(element);
            methods.put(name(element), tree);
            calls.put(name(element), new LinkedHashSet<>());
            return super.visitMethod(tree, nothing);
        }
    }

    @Override
    public Void scan(Tree tree, Void nothing) {
        if (tree == null) {
            return null;
        }
        TreePath before = getCurrentPath();
        TreePath path = before == null ? new TreePath((CompilationUnitTree) tree) : new TreePath(before, tree);
        parts.add(new Part(tree, path, method, loops > 0));
        loops += LOOPS.contains(tree.getKind()) ? 1 : 0;
        super.scan(tree, nothing);
        loops -= LOOPS.contains(tree.getKind()) ? 1 : 0;
        return null;
    }

    @Override
    public Void visitMethod(MethodTree tree, Void nothing) {
        method = name((ExecutableElement) trees.getElement(getCurrentPath()));
        super.visitMethod(tree, nothing);
        method = "";
        return null;
    }

    @Override
    public Void visitMethodInvocation(MethodInvocationTree tree, Void nothing) {
        ExecutableElement called = (ExecutableElement) trees.getElement(getCurrentPath());
        if (own.contains(called)) {
            addCalls(called, tree.getMethodSelect());
        } else if (!called.getSimpleName().contentEquals("<init>")) {
            List<String> given = new ArrayList<>();
            for (ExpressionTree argument : tree.getArguments()) {
                given.add(typeOf(new TreePath(getCurrentPath(), argument)).toString());
            }
            library.add(called.getEnclosingElement() + "." + called.getSimpleName() + given);
        }
        return super.visitMethodInvocation(tree, nothing);
    }

    @Override
    public Void visitNewClass(NewClassTree tree, Void nothing) {
        Element made = trees.getElement(getCurrentPath());
        if (own.contains(made)) {
            calls.computeIfAbsent(method, m -> new LinkedHashSet<>()).add(name((ExecutableElement) made));
        } else {
            library.add("new " + made);
        }
        return super.visitNewClass(tree, nothing);
    }

    /** Also those of the classes under it that may answer instead, unless it is called by super. */
    private void addCalls(ExecutableElement called, ExpressionTree how) {
        Set<String> mine = calls.computeIfAbsent(method, m -> new LinkedHashSet<>());
        mine.add(name(called));
        boolean bySuper = how instanceof MemberSelectTree
                && ((MemberSelectTree) how).getExpression().toString().equals("super");
        for (ExecutableElement other : own) {
            if (!bySuper && task.getElements().overrides(other, called, (TypeElement) other.getEnclosingElement())) {
                mine.add(name(other));
            }
        }
    }

    static String name(ExecutableElement e) {
        return e.getEnclosingElement().getSimpleName() + "." + e.getSimpleName();
    }

    TypeMirror typeOf(TreePath path) {
        return trees.getTypeMirror(path);
    }

    Element elementOf(TreePath path) {
        return trees.getElement(path);
    }

    boolean isOwnType(Element element) {
        return ownTypes.contains(element);
    }

    List<Part> ofKind(Tree.Kind... kinds) {
        Set<Tree.Kind> wanted = Set.of(kinds);
        List<Part> found = new ArrayList<>();
        for (Part part : parts) {
            if (wanted.contains(part.tree.getKind())) {
                found.add(part);
            }
        }
        return found;
    }

    long line(Tree tree) {
        return unit.getLineMap().getLineNumber(trees.getSourcePositions().getStartPosition(unit, tree));
    }

    long lastLine(Tree tree) {
        return unit.getLineMap().getLineNumber(trees.getSourcePositions().getEndPosition(unit, tree));
    }

    /** Whether a part names the object itself or one of its fields. */
    boolean namesOwnField(TreePath path) {
        boolean[] found = {false};
        new TreePathScanner<Void, Void>() {
            @Override
            public Void visitIdentifier(IdentifierTree tree, Void nothing) {
                Element element = trees.getElement(getCurrentPath());
                boolean field = element.getKind().isField()
                        && !element.getModifiers().contains(Modifier.STATIC);
                found[0] |= field || tree.getName().contentEquals("this");
                return null;
            }
        }.scan(path, null);
        return found[0];
    }

    /** A number's or a constant's value; null, if it is reckoned only later. */
    Object constant(TreePath path) {
        Tree tree = path.getLeaf();
        if (tree instanceof LiteralTree) {
            return ((LiteralTree) tree).getValue();
        }
        Element element = trees.getElement(path);
        return element instanceof VariableElement ? ((VariableElement) element).getConstantValue() : null;
    }

    TreePath right(Part part) {
        return new TreePath(part.path, ((BinaryTree) part.tree).getRightOperand());
    }
}
