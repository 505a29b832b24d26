import java.io.IOException;
import java.lang.reflect.Field;
import java.lang.reflect.Method;
import java.lang.reflect.Modifier;
import java.nio.file.Files;
import java.nio.file.Path;
import java.util.ArrayList;
import java.util.Arrays;
import java.util.HashSet;
import java.util.List;
import java.util.Set;
import java.util.TreeSet;
import java.util.regex.Matcher;
import java.util.regex.Pattern;

/** What can be seen of ../shared/LANGUAGE.md in the class and its text; the document's face too. */
public final class LanguageTest {
    private static final Checks CHECKS = new Checks();
    private static final String[] FACE = {
        "int feed(int)", "int valley()", "int person(int, int, int)", "int free(int, int)", "int row(int, int, int)",
        "int tool(int, int)", "int twin(int, int)", "int broken(int, boolean)", "int give(int, int)",
        "int of(int, int)", "int who(int, int)", "int at(int, int)", "int worth(int, int)", "int hour(int, int)",
        "int day(int)", "int change(int)", "int away(int)", "int worst()", "int join(int)",
        "int trial(int, int, boolean)", "int clear()", "int find(int)", "int fits(int)",
        "long once(int, int, int, int)", "int book(int, int)", "int looked()", "int act(int, int, int)",
        "int trace(int)", "int as(int, int)", "int image()", "int undo()", "int count(int)"};

    public static void main(String[] args) throws IOException {
        face();
        members();
        String text = Files.readString(Path.of("src/main/java/TwinTools.java"));
        words(withoutTexts(text));
        lengths(text);
        CHECKS.end("LanguageTest");
    }

    private static void holds(String what, boolean is) {
        CHECKS.due(what, is ? 1 : 0, 1);
    }

    private static void face() {
        Set<String> methods = new TreeSet<>();
        for (Method m : TwinTools.class.getDeclaredMethods()) {
            if (!Modifier.isPrivate(m.getModifiers())) {
                String types = Arrays.toString(m.getParameterTypes());
                methods.add(m.getReturnType() + " " + m.getName() + "(" + types.substring(1, types.length() - 1) + ")");
                holds("rule 1: public " + m.getName(), m.getModifiers() == Modifier.PUBLIC);
            }
        }
        Set<String> want = new TreeSet<>(Arrays.asList(FACE));
        holds("rule 1: the face is " + methods, methods.equals(want));
        Set<String> constants = new TreeSet<>();
        for (Field f : TwinTools.class.getDeclaredFields()) {
            if (!Modifier.isPrivate(f.getModifiers())) {
                constants.add(f.getType() + " " + f.getName());
            }
        }
        holds("rule 1: the constants are " + constants, constants.equals(new TreeSet<>(List.of(
                "int NONE", "int BAD", "int STATE", "int FULL", "long NO"))));
        int modifiers = TwinTools.class.getModifiers();
        holds("rule 1: public and final", Modifier.isPublic(modifiers) && Modifier.isFinal(modifiers));
        holds("rule 1: one constructor", TwinTools.class.getDeclaredConstructors().length == 1);
    }

    private static void members() {
        Set<String> faceNames = new HashSet<>();
        for (String call : FACE) {
            faceNames.add(call.substring(call.indexOf(' ') + 1, call.indexOf('(')));
        }
        List<Class<?>> classes = new ArrayList<>(Arrays.asList(TwinTools.class.getDeclaredClasses()));
        holds("rule 11: classes", classes.size() + 1 <= 12);
        for (Class<?> c : classes) {
            holds("rule 2: static " + c, Modifier.isStatic(c.getModifiers()));
        }
        classes.add(TwinTools.class);
        for (Class<?> c : classes) {
            int fields = 0;
            for (Field f : c.getDeclaredFields()) {
                boolean constant = Modifier.isStatic(f.getModifiers());
                fields += constant ? 0 : 1;
                holds("rule 5: final " + f, !constant || Modifier.isFinal(f.getModifiers()));
            }
            holds("rule 11: fields of " + c, fields <= 20);
            for (Method m : c.getDeclaredMethods()) {
                holds("rule 11: parameters of " + m, m.getParameterCount() <= 7);
                holds("rule 1: name of " + m, c == TwinTools.class && Modifier.isPublic(m.getModifiers())
                        || !faceNames.contains(m.getName()));
            }
        }
    }

    private static String withoutTexts(String text) {
        return text.replaceAll("(?s)/\\*.*?\\*/", " ").replaceAll("//[^\n]*", " ")
                .replaceAll("'(\\\\.|[^'])'", "' '").replaceAll("\"(\\\\.|[^\"\\\\])*\"", "\"\"");
    }

    private static void words(String code) {
        for (String word : List.of("throw", "throws", "try", "catch", "finally", "synchronized", "assert", "package",
                "volatile", "native", "hashCode", "toString", "var", "yield", "protected", "Object")) {
            holds("rule 6: no " + word, !Pattern.compile("\\b" + word + "\\b").matcher(code).find());
        }
        for (String sign : List.of("->", "::", "@", "Exact", "static {")) {
            holds("rules 2, 4, 5: no " + sign, !code.contains(sign));
        }
        Set<String> library = Set.of("System.arraycopy", "Arrays.fill", "Math.max", "Math.min", "Math.floorMod",
                "Integer.bitCount", "Long.MIN_VALUE");
        Matcher uses = Pattern.compile("\\b(System|Arrays|Math|Integer|Long|String|List)\\.\\w+").matcher(code);
        while (uses.find()) {
            holds("rule 4: " + uses.group(), library.contains(uses.group()));
        }
        Matcher imports = Pattern.compile("import ([\\w.*]+);").matcher(code);
        while (imports.find()) {
            holds("rule 4: import " + imports.group(1), imports.group(1).equals("java.util.Arrays"));
        }
        holds("rule 9: each while has its bound in a for", !Pattern.compile("\\bwhile\\b").matcher(code).find());
    }

    private static void lengths(String text) {
        String[] lines = text.split("\n");
        Pattern start = Pattern.compile("^( {4}| {8})(public |private |static )*[\\w\\[\\]]+ ?\\w*\\([^;]*\\{$");
        for (int i = 0; i < lines.length; i++) {
            holds("line " + (i + 1) + " is short", lines[i].length() <= 120);
            Matcher m = start.matcher(lines[i]);
            if (m.matches()) {
                int end = i;
                while (!lines[end].equals(m.group(1) + "}")) {
                    end++;
                }
                holds("rule 11: length of the method in line " + (i + 1), end - i < 60);
            }
        }
    }
}
