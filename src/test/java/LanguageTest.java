import com.sun.source.tree.BinaryTree;
import com.sun.source.tree.CaseTree;
import com.sun.source.tree.ClassTree;
import com.sun.source.tree.ExpressionTree;
import com.sun.source.tree.ForLoopTree;
import com.sun.source.tree.MethodInvocationTree;
import com.sun.source.tree.MethodTree;
import com.sun.source.tree.NewClassTree;
import com.sun.source.tree.Tree;
import com.sun.source.tree.Tree.Kind;
import com.sun.source.tree.TypeCastTree;
import com.sun.source.tree.VariableTree;
import com.sun.source.util.TreePath;
import java.io.IOException;
import java.lang.reflect.Field;
import java.lang.reflect.Method;
import java.lang.reflect.Modifier;
import java.nio.file.Files;
import java.nio.file.Path;
import java.util.ArrayList;
import java.util.Arrays;
import java.util.HashMap;
import java.util.HashSet;
import java.util.List;
import java.util.Map;
import java.util.Set;
import java.util.TreeSet;
import javax.lang.model.element.Element;
import javax.lang.model.type.ArrayType;
import javax.lang.model.type.DeclaredType;
import javax.lang.model.type.TypeKind;
import javax.lang.model.type.TypeMirror;

/** The rules of ../shared/LANGUAGE.md, held against the class as the compiler reads it; the document's face too. */
public final class LanguageTest {
    private static final Checks CHECKS = new Checks();
    private static final String[] FACE = {
        "int feed(int)", "int valley()", "int person(int, int, int)", "int free(int, int)", "int row(int, int, int)",
        "int tool(int, int)", "int twin(int, int)", "int broken(int, boolean)", "int give(int, int)",
        "int of(int, int)", "int who(int, int)", "int at(int, int)", "int worth(int, int)", "int hour(int, int)",
        "int day(int)", "int change(int)", "int away(int)", "int worst()", "int join(int)",
        "int trial(int, int, boolean)", "int clear()", "int find(int)", "int fits(int)",
        "long once(int, int, int, int)", "int book(int, int)", "int looked()", "int act(int, int, int)",
        "int trace(int)", "int as(int, int)", "int image()", "int undo()", "int count(int)"};
    /** What the class uses of what rule 4 lists. */
    private static final Set<String> LIBRARY = Set.of(
            "java.lang.String.length[]", "java.lang.String.charAt[int]", "java.lang.String.indexOf[char]",
            "java.lang.Integer.bitCount[int]", "java.lang.Math.max[int, int]", "java.lang.Math.min[int, int]",
            "java.lang.Math.floorMod[int, int]", "java.lang.System.arraycopy[byte[], int, byte[], int, int]",
            "java.lang.System.arraycopy[int[], int, int[], int, int]", "java.util.Arrays.fill[int[], int]");
    private static ClassText text;

    /** Another file may be told, to see that the rules are minded at all. */
    public static void main(String[] args) throws IOException {
        Path file = Path.of(args.length > 0 ? args[0] : "src/main/java/TwinTools.java");
        text = new ClassText(file);
        face();
        classes();
        types();
        library();
        staticFields();
        wordsLeftOut();
        divisors();
        recursion();
        loops();
        sizes(Files.readAllLines(file));
        whatIsMade();
        CHECKS.end("LanguageTest");
    }

    private static void holds(String what, boolean is) {
        CHECKS.due(what, is ? 1 : 0, 1);
    }

    private static void none(String rule, List<ClassText.Part> parts) {
        List<Long> lines = new ArrayList<>();
        for (ClassText.Part part : parts) {
            lines.add(text.line(part.tree));
        }
        holds(rule + ", but in lines " + lines, lines.isEmpty());
    }

    private static void face() {
        CHECKS.sentence("1: the face, and no other member that can be seen");
        Set<String> methods = new TreeSet<>();
        Set<String> names = new HashSet<>();
        for (Method m : TwinTools.class.getDeclaredMethods()) {
            if (!Modifier.isPrivate(m.getModifiers())) {
                String types = Arrays.toString(m.getParameterTypes());
                methods.add(m.getReturnType() + " " + m.getName() + "(" + types.substring(1, types.length() - 1) + ")");
                names.add(m.getName());
                holds("public " + m.getName(), m.getModifiers() == Modifier.PUBLIC);
            }
        }
        holds("the face is " + methods, methods.equals(new TreeSet<>(Arrays.asList(FACE))));
        Set<String> constants = new TreeSet<>();
        for (Field f : TwinTools.class.getDeclaredFields()) {
            if (!Modifier.isPrivate(f.getModifiers())) {
                constants.add(f.getType() + " " + f.getName());
            }
        }
        holds("the constants are " + constants, constants.equals(new TreeSet<>(List.of(
                "int NONE", "int BAD", "int STATE", "int FULL", "long NO"))));
        int modifiers = TwinTools.class.getModifiers();
        holds("public and final", Modifier.isPublic(modifiers) && Modifier.isFinal(modifiers));
        holds("one constructor", TwinTools.class.getDeclaredConstructors().length == 1);
        CHECKS.sentence("1: no private method bears the name of a public one");
        for (String method : text.methods.keySet()) {
            String name = method.substring(method.indexOf('.') + 1);
            holds("name of " + method, method.startsWith("TwinTools.")
                    ? !names.contains(name) || isPublic(text.methods.get(method)) : !names.contains(name));
        }
    }

    private static boolean isPublic(MethodTree method) {
        return method.getModifiers().getFlags().contains(javax.lang.model.element.Modifier.PUBLIC);
    }

    private static void classes() {
        CHECKS.sentence("2: classes inside are static; none is local or anonymous; no lambda, no method reference");
        none("no lambda, no method reference", text.ofKind(Kind.LAMBDA_EXPRESSION, Kind.MEMBER_REFERENCE));
        for (ClassText.Part part : text.ofKind(Kind.CLASS)) {
            ClassTree tree = (ClassTree) part.tree;
            boolean outer = tree.getSimpleName().contentEquals("TwinTools");
            holds("where " + tree.getSimpleName() + " stands", part.method.isEmpty()
                    && (outer || part.path.getParentPath().getLeaf().getKind() == Kind.CLASS));
            holds("static " + tree.getSimpleName(), outer
                    || tree.getModifiers().getFlags().contains(javax.lang.model.element.Modifier.STATIC));
        }
        for (ClassText.Part part : text.ofKind(Kind.NEW_CLASS)) {
            holds("no body behind new", ((NewClassTree) part.tree).getClassBody() == null);
        }
    }

    private static void types() {
        CHECKS.sentence("3: the types");
        for (ClassText.Part part : text.ofKind(Kind.VARIABLE)) {
            isLanguageType(text.typeOf(part.path), text.line(part.tree));
        }
        for (ClassText.Part part : text.ofKind(Kind.NEW_ARRAY, Kind.TYPE_CAST)) {
            isLanguageType(text.typeOf(part.path), text.line(part.tree));
        }
        none("no doubles are needed", text.ofKind(Kind.DOUBLE_LITERAL, Kind.FLOAT_LITERAL));
    }

    private static void isLanguageType(TypeMirror type, long line) {
        TypeMirror inside = type;
        int dimensions = 0;
        while (inside.getKind() == TypeKind.ARRAY) {
            inside = ((ArrayType) inside).getComponentType();
            dimensions++;
        }
        boolean number = inside.getKind().isPrimitive();
        boolean own = inside.getKind() == TypeKind.DECLARED && text.isOwnType(((DeclaredType) inside).asElement());
        boolean aText = inside.toString().equals("java.lang.String") && dimensions == 0;
        holds("type " + type + " in line " + line, aText || dimensions < 2 && own || dimensions < 3 && number);
    }

    private static void library() {
        CHECKS.sentence("4, 13: the library");
        for (String used : text.library) {
            holds(used, LIBRARY.contains(used));
        }
        for (Tree tree : text.unit.getImports()) {
            holds(tree.toString(), tree.toString().trim().equals("import java.util.Arrays;"));
        }
        holds("no package", text.unit.getPackageName() == null);
    }

    private static void staticFields() {
        CHECKS.sentence("5: static fields are final constants");
        for (ClassText.Part part : text.ofKind(Kind.VARIABLE)) {
            VariableTree tree = (VariableTree) part.tree;
            Set<javax.lang.model.element.Modifier> flags = tree.getModifiers().getFlags();
            if (flags.contains(javax.lang.model.element.Modifier.STATIC)) {
                holds("a constant: " + tree.getName(), flags.contains(javax.lang.model.element.Modifier.FINAL)
                        && Set.of("int", "long", "boolean", "char").contains(text.typeOf(part.path).toString()));
            }
        }
        for (ClassText.Part part : text.ofKind(Kind.BLOCK)) {
            holds("no initialiser block", part.path.getParentPath().getLeaf().getKind() != Kind.CLASS);
        }
    }

    private static void wordsLeftOut() {
        CHECKS.sentence("6: no throw, try, catch, synchronized, assert; casts and == only where they are safe");
        none("none of these words", text.ofKind(Kind.THROW, Kind.TRY, Kind.CATCH, Kind.SYNCHRONIZED, Kind.ASSERT));
        for (ClassText.Part part : text.ofKind(Kind.METHOD)) {
            holds("no throws", ((MethodTree) part.tree).getThrows().isEmpty());
        }
        for (ClassText.Part part : text.ofKind(Kind.CASE)) {
            for (ExpressionTree label : ((CaseTree) part.tree).getExpressions()) {
                holds("a constant behind case", text.constant(new TreePath(part.path, label)) != null);
            }
        }
        for (ClassText.Part part : text.ofKind(Kind.TYPE_CAST)) {
            holds("a cast of numbers: " + part.tree, text.typeOf(part.path).getKind().isPrimitive()
                    && text.typeOf(new TreePath(part.path, ((TypeCastTree) part.tree).getExpression()))
                    .getKind().isPrimitive());
        }
        for (ClassText.Part part : text.ofKind(Kind.EQUAL_TO, Kind.NOT_EQUAL_TO)) {
            String left = text.typeOf(new TreePath(part.path, ((BinaryTree) part.tree).getLeftOperand())).toString();
            holds("no texts compared: " + part.tree, !left.startsWith("java."));
        }
        for (ClassText.Part part : text.ofKind(Kind.PLUS, Kind.PLUS_ASSIGNMENT)) {
            holds("10: no texts joined: " + part.tree, text.typeOf(part.path).getKind().isPrimitive());
        }
    }

    private static void divisors() {
        CHECKS.sentence("7: a divisor is looked at before it divides");
        for (ClassText.Part part : text.ofKind(Kind.DIVIDE, Kind.REMAINDER)) {
            TreePath divisor = text.right(part);
            Object constant = text.constant(divisor);
            holds("divisor of " + part.tree, constant == null
                    ? comparedIn(part.method, divisor.getLeaf().toString()) : ((Number) constant).longValue() != 0);
        }
        none("no other way to divide", text.ofKind(Kind.DIVIDE_ASSIGNMENT, Kind.REMAINDER_ASSIGNMENT));
    }

    private static boolean comparedIn(String method, String words) {
        for (ClassText.Part part : text.ofKind(Kind.GREATER_THAN, Kind.LESS_THAN, Kind.NOT_EQUAL_TO)) {
            if (part.method.equals(method) && ((BinaryTree) part.tree).getLeftOperand().toString().equals(words)) {
                return true;
            }
        }
        return false;
    }

    private static void recursion() {
        CHECKS.sentence("8: recursion carries its depth");
        Set<String> again = new TreeSet<>();
        for (String method : text.calls.keySet()) {
            if (reaches(method, method, new HashSet<>())) {
                again.add(method);
            }
        }
        holds("these call themselves: " + again, again.equals(new TreeSet<>(List.of(
                "Plan.joinRest", "Valley.readPart", "Valley.readOpened"))));
        for (String method : again) {
            holds("a depth is given to " + method, !text.methods.get(method).getParameters().isEmpty());
        }
        CHECKS.sentence("11: calls that are no recursion go at most eight deep");
        Map<String, Integer> known = new HashMap<>();
        for (Map.Entry<String, MethodTree> method : text.methods.entrySet()) {
            int deep = deep(method.getKey(), again, known);
            holds(method.getKey() + " goes " + deep + " deep", !isPublic(method.getValue()) || deep <= 8);
        }
    }

    private static boolean reaches(String from, String to, Set<String> seen) {
        for (String next : text.calls.getOrDefault(from, Set.of())) {
            if (next.equals(to) || seen.add(next) && reaches(next, to, seen)) {
                return true;
            }
        }
        return false;
    }

    /** What calls itself is one level, however often it does. */
    private static int deep(String method, Set<String> again, Map<String, Integer> known) {
        if (known.containsKey(method)) {
            return known.get(method);
        }
        Set<String> group = new HashSet<>(Set.of(method));
        for (String other : again) {
            if (again.contains(method) && reaches(method, other, new HashSet<>())
                    && reaches(other, method, new HashSet<>())) {
                group.add(other);
            }
        }
        int below = 0;
        for (String one : group) {
            for (String next : text.calls.getOrDefault(one, Set.of())) {
                below = group.contains(next) ? below : Math.max(below, deep(next, again, known));
            }
        }
        known.put(method, below + 1);
        return below + 1;
    }

    private static void loops() {
        CHECKS.sentence("9: every loop has an end that can be seen from its own lines");
        none("each loop counts", text.ofKind(Kind.WHILE_LOOP, Kind.DO_WHILE_LOOP));
        for (ClassText.Part part : text.ofKind(Kind.FOR_LOOP)) {
            ForLoopTree loop = (ForLoopTree) part.tree;
            String name = loop.getInitializer().size() == 1
                    ? ((VariableTree) loop.getInitializer().get(0)).getName().toString() : "?";
            String condition = loop.getCondition() == null ? "" : loop.getCondition().toString();
            holds("the bound of " + name + " in line " + text.line(loop), condition.startsWith(name + " <"));
            holds("the counter " + name, loop.getUpdate().size() == 1
                    && loop.getUpdate().get(0).toString().equals(name + "++;"));
            holds("only the loop itself counts " + name, !loop.getStatement().toString()
                    .matches("(?s).*\\b" + name + "(\\+\\+|--| [-+*/|&^]?= ).*"));
        }
    }

    private static void sizes(List<String> lines) {
        CHECKS.sentence("11: sizes of methods, classes and the file");
        for (Map.Entry<String, MethodTree> method : text.methods.entrySet()) {
            MethodTree tree = method.getValue();
            holds("parameters of " + method.getKey(), tree.getParameters().size() <= 7);
            holds("length of " + method.getKey(), text.lastLine(tree) - text.line(tree) < 60);
        }
        holds("classes", text.ofKind(Kind.CLASS).size() <= 12);
        for (ClassText.Part part : text.ofKind(Kind.CLASS)) {
            int fields = 0;
            for (Tree member : ((ClassTree) part.tree).getMembers()) {
                fields += member instanceof VariableTree && !((VariableTree) member).getModifiers().getFlags()
                        .contains(javax.lang.model.element.Modifier.STATIC) ? 1 : 0;
            }
            holds("fields of " + ((ClassTree) part.tree).getSimpleName(), fields <= 20);
        }
        for (String line : lines) {
            holds("a short line: " + line, line.length() <= 120);
        }
    }

    private static void whatIsMade() {
        CHECKS.sentence("12: nothing is made in a loop; a constructor hands out nothing of the object it makes");
        for (ClassText.Part part : text.ofKind(Kind.NEW_CLASS, Kind.NEW_ARRAY)) {
            holds("no loop around " + part.tree, !part.inLoop);
            boolean making = part.method.isEmpty() || part.method.endsWith(".<init>");
            holds("where " + part.tree + " is made", making
                    || part.tree.getKind() == Kind.NEW_CLASS
                    && List.of("TwinTools.valley", "TwinTools.newcomer").contains(part.method));
            if (making && part.tree.getKind() == Kind.NEW_CLASS) {
                for (ExpressionTree given : ((NewClassTree) part.tree).getArguments()) {
                    holds("handed out: " + part.tree, !text.namesOwnField(new TreePath(part.path, given)));
                }
            }
        }
        for (ClassText.Part part : text.ofKind(Kind.METHOD_INVOCATION)) {
            if (part.method.isEmpty() || part.method.endsWith(".<init>")) {
                String called = ((MethodInvocationTree) part.tree).getMethodSelect().toString();
                holds("a constructor calls " + called, called.equals("super"));
            }
        }
        CHECKS.sentence("6: no answer depends on which object it is");
        for (ClassText.Part part : text.ofKind(Kind.EQUAL_TO, Kind.NOT_EQUAL_TO)) {
            BinaryTree tree = (BinaryTree) part.tree;
            Element of = text.elementOf(new TreePath(part.path, tree.getLeftOperand()));
            TypeMirror type = of == null ? null : text.typeOf(new TreePath(part.path, tree.getLeftOperand()));
            holds("== between objects: " + tree, type == null || type.getKind() != TypeKind.DECLARED
                    || tree.getRightOperand().getKind() == Kind.NULL_LITERAL);
        }
    }
}
