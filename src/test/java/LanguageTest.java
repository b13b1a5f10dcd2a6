import java.io.IOException;
import java.lang.reflect.Method;
import java.lang.reflect.Modifier;
import java.nio.file.Files;
import java.nio.file.Path;
import java.util.Arrays;
import java.util.List;
import java.util.TreeSet;
import java.util.regex.Matcher;
import java.util.regex.Pattern;

/** The face of the class, and those rules of LANGUAGE.md that can be seen in its text. */
public final class LanguageTest {
    private static final Due DUE = new Due("LanguageTest");
    private static final List<String> FACE = Arrays.asList(
        "int clear()", "int has(int)", "int node(int,int,int,int,int)", "int note(int)", "int notes()", "int run(int)",
        "int sub(int,int)", "int thing(int,int)", "int told(int)", "int where()", "int worked()",
        "long bits(int,int)", "long element(int,int)", "long get(int)", "long value()");
    private static final String[] NOT_ALLOWED = {
        "\\bimport\\b", "\\bpackage\\b", "->", "::", "\\btry\\b", "\\bcatch\\b", "\\bthrow\\b", "\\bfinally\\b",
        "\\bsynchronized\\b", "\\bassert\\b", "\\bprotected\\b", "\\bObject\\b", "\\bFloat\\.", "\\bDouble\\.",
        "Exact\\(", "\\bstatic \\{", "\\bwhile \\(true", "for \\(;;", "\\binstanceof\\b", "[^\\x00-\\x7f]",
    };

    public static void main(String[] args) throws IOException {
        face();
        String text = Files.readString(Path.of("src/main/java/ArrayRules.java"));
        String code = text.replaceAll("(?s)/\\*.*?\\*/", "").replaceAll("//[^\\n]*", "");
        for (String pattern : NOT_ALLOWED) {
            Matcher found = Pattern.compile(pattern).matcher(code);
            DUE.holds("none of " + pattern, !found.find());
        }
        methodsAreShort(text);
        DUE.end();
    }

    private static void face() {
        TreeSet<String> found = new TreeSet<>();
        TreeSet<String> names = new TreeSet<>();
        for (Method method : ArrayRules.class.getDeclaredMethods()) {
            if (Modifier.isPublic(method.getModifiers())) {
                String whole = method.toString().replace("public ", "").replace("ArrayRules.", "");
                found.add(whole);
                names.add(method.getName());
            } else {
                DUE.holds(method + " is private", Modifier.isPrivate(method.getModifiers()));
            }
        }
        DUE.holds("the face is " + found, found.equals(new TreeSet<>(FACE)));
        DUE.is("constructors", ArrayRules.class.getConstructors().length, 1);
        DUE.is("public constants", ArrayRules.class.getFields().length, 3);
        DUE.holds("final", Modifier.isFinal(ArrayRules.class.getModifiers()));
        DUE.is("NONE", ArrayRules.NONE, -1);
        DUE.is("OUTSIDE", ArrayRules.OUTSIDE, -2);
        DUE.is("ROOM", ArrayRules.ROOM, -3);
        DUE.holds("at most twelve classes", ArrayRules.class.getDeclaredClasses().length < 12);
        for (Class<?> inside : ArrayRules.class.getDeclaredClasses()) {
            DUE.holds(inside + " is static", Modifier.isStatic(inside.getModifiers()));
            for (Method method : inside.getDeclaredMethods()) {
                DUE.holds(method + " has a name of its own", !names.contains(method.getName()));
                DUE.holds(method + " has few parameters", method.getParameterCount() <= 7);
            }
        }
    }

    private static void methodsAreShort(String text) {
        String[] lines = text.split("\n");
        int start = 0;
        for (int i = 0; i < lines.length; i++) {
            if (lines[i].matches("( {4}| {8})\\S.*\\) \\{")) {
                start = i;
            }
            if (lines[i].matches(" {4}\\}| {8}\\}")) {
                DUE.holds("short: " + lines[start].trim(), i - start <= 62 || lines[start].contains("class"));
            }
            DUE.holds("line " + (i + 1) + " is not long", lines[i].length() <= 120);
        }
    }
}
