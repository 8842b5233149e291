import java.io.IOException;
import java.lang.reflect.Constructor;
import java.lang.reflect.Field;
import java.lang.reflect.Method;
import java.lang.reflect.Modifier;
import java.nio.file.Files;
import java.nio.file.Path;
import java.util.Arrays;
import java.util.List;
import java.util.TreeSet;
import java.util.regex.Matcher;
import java.util.regex.Pattern;

/** The public face, and those rules of LANGUAGE.md that a look at the file can hold. */
public final class FaceTest {
    private static final String FACE = String.join("\n",
            "void box(int,int)", "boolean remove(int)", "void arrow(int,int,int)", "boolean drop(int)",
            "void pin(int,int)", "boolean draw(int)", "int redraw(int,int)", "int at(int,int)",
            "int reversed(int)", "int item(int,int)", "int piece(int,int,int)", "int between(int,int)",
            "int count(int)");
    private static final List<String> SILENT = List.of("item", "count");

    private static String face(Method m) {
        StringBuilder text = new StringBuilder(m.getReturnType() + " " + m.getName() + "(");
        for (Class<?> type : m.getParameterTypes()) {
            text.append(text.toString().endsWith("(") ? "" : ",").append(type);
        }
        return text.append(")").toString();
    }

    private static void checkFace(Check check) {
        TreeSet<String> publicOnes = new TreeSet<>();
        TreeSet<String> names = new TreeSet<>();
        for (Method m : RouteLayout.class.getDeclaredMethods()) {
            if (Modifier.isPublic(m.getModifiers())) {
                publicOnes.add(face(m));
                names.add(m.getName());
                String thrown = Arrays.toString(m.getExceptionTypes());
                String due = SILENT.contains(m.getName()) ? "[]" : "[class java.lang.IllegalArgumentException]";
                check.due("what " + m.getName() + " declares", thrown, due);
            }
        }
        check.due("public methods", publicOnes.toString(), new TreeSet<>(List.of(FACE.split("\n"))).toString());
        for (Method m : RouteLayout.class.getDeclaredMethods()) {
            boolean open = Modifier.isPublic(m.getModifiers());
            check.due("private " + m, open || Modifier.isPrivate(m.getModifiers()) ? 1 : 0, 1);
            check.due("own name of " + m, open || !names.contains(m.getName()) ? 1 : 0, 1);
        }
        for (Field f : RouteLayout.class.getDeclaredFields()) {
            check.due("private " + f, Modifier.isPrivate(f.getModifiers()) ? 1 : 0, 1);
            check.due("no static state in " + f, !Modifier.isStatic(f.getModifiers()) || Modifier.isFinal(f.getModifiers()) ? 1 : 0, 1);
        }
        check.due("final", Modifier.isFinal(RouteLayout.class.getModifiers()) ? 1 : 0, 1);
        Constructor<?>[] made = RouteLayout.class.getDeclaredConstructors();
        check.due("constructors", made.length, 1);
        check.due("the constructor's parameters", made[0].getParameterCount(), 0);
        check.due("public constructor", Modifier.isPublic(made[0].getModifiers()) ? 1 : 0, 1);
    }

    private static void checkInside(Check check) {
        Class<?>[] inside = RouteLayout.class.getDeclaredClasses();
        check.due("at most 12 classes", inside.length + 1 <= 12 ? 1 : 0, 1);
        for (Class<?> c : inside) {
            check.due("static " + c, Modifier.isStatic(c.getModifiers()) ? 1 : 0, 1);
            check.due("not open " + c, Modifier.isPublic(c.getModifiers()) || Modifier.isProtected(c.getModifiers()) ? 1 : 0, 0);
            long fields = Arrays.stream(c.getDeclaredFields()).filter(f -> !Modifier.isStatic(f.getModifiers())).count();
            check.due("at most 20 fields in " + c, fields <= 20 ? 1 : 0, 1);
            for (Method m : c.getDeclaredMethods()) {
                check.due("own name of " + m, FACE.contains(" " + m.getName() + "(") ? 1 : 0, 0);
                check.due("at most 7 parameters of " + m, m.getParameterCount() <= 7 ? 1 : 0, 1);
            }
        }
    }

    private static void checkText(Check check) throws IOException {
        String text = Files.readString(Path.of("src/main/java/RouteLayout.java"));
        String code = text.replaceAll("(?s)/\\*.*?\\*/", "").replaceAll("//[^\n]*", "");
        for (String word : List.of("->", "::", "\\bfinally\\b", "\\bsynchronized\\b", "\\bassert\\b", "\\btry\\b",
                "\\bcatch\\b", "\\bpackage\\b", "Exact\\(", "\\bSystem\\.(?!arraycopy)", "\\bimport (?!java\\.util\\.Arrays;)",
                // Of these classes rule 4 has functions alone, not what they hold as constants.
                "\\b(Integer|Long|Math|Arrays)\\.\\w+\\b(?!\\()")) {
            check.due("uses of " + word, Pattern.compile(word).matcher(code).results().count(), 0);
        }
        Matcher thrown = Pattern.compile("throw new (\\w+)\\((\"[^\"]*\")?\\);").matcher(code);
        long throwsIn = Pattern.compile("\\bthrow\\b").matcher(code).results().count();
        long known = thrown.results().filter(r -> r.group(1).equals("IllegalArgumentException")).count();
        check.due("throws of IllegalArgumentException alone", known, throwsIn);
        check.due("signs 1 to 127", text.chars().filter(c -> c < 1 || c > 127).count(), 0);
        checkMethods(check, text.split("\n"));
    }

    private static void checkMethods(Check check, String[] lines) {
        int begin = -1;
        for (int k = 0; k < lines.length; k++) {
            if (lines[k].matches("( {4}| {8})(?!if |for |while |switch )[A-Za-z][^;=]*\\) ?(throws \\w+ )?\\{")) {
                begin = k;
            }
            if (begin >= 0 && lines[k].matches(" {4}\\}| {8}\\}") && lines[k].indexOf('}') == indent(lines[begin])) {
                check.due("at most 60 lines from line " + (begin + 1), k - begin + 1 <= 60 ? 1 : 0, 1);
                checkRecursion(check, lines[begin], String.join("\n", Arrays.copyOfRange(lines, begin + 1, k)));
                begin = -1;
            }
        }
    }

    /** Rule 8: what calls itself is static; others may call one another. */
    private static void checkRecursion(Check check, String head, String body) {
        Matcher name = Pattern.compile("(\\w+)\\(").matcher(head);
        check.due("a name in " + head, name.find() ? 1 : 0, 1);
        boolean callsItself = Pattern.compile("(?<![.\\w])(this\\.)?" + name.group(1) + "\\(").matcher(body).find();
        check.due("calls itself: " + head.strip(), callsItself && !head.contains(" static ") ? 1 : 0, 0);
    }

    private static int indent(String line) {
        return line.length() - line.stripLeading().length();
    }

    public static void main(String[] args) throws IOException {
        Check check = new Check();
        checkFace(check);
        checkInside(check);
        checkText(check);
        check.end("FaceTest");
    }
}
