import java.io.IOException;
import java.lang.reflect.Constructor;
import java.lang.reflect.Field;
import java.lang.reflect.Method;
import java.lang.reflect.Modifier;
import java.nio.charset.StandardCharsets;
import java.nio.file.Files;
import java.nio.file.Path;
import java.util.Arrays;
import java.util.Set;
import java.util.TreeSet;
import java.util.regex.Matcher;
import java.util.regex.Pattern;

/** The public face, and the rules of LANGUAGE.md that can be told without a run. */
public final class RulesTest {
    private static final Check check = new Check();

    private static final String FACE = "above(int,int)int ahead(int,int)int at(int)int back()int between(int,int,int)int "
            + "child(int,int)int count(int)int cut(int)int end(int)int fault()int grow(int,int,int)int keep()int "
            + "key(int,int,int)int lay()int matches()long meet(int,int)int node(int,int)int pattern()int puts(int,int)long "
            + "step(int,int)int tag(int,int)int undo()int useful(int)int wipe()int write(int)int";

    public static void main(String[] args) throws IOException {
        face();
        constants();
        constructors();
        for (Class<?> inside : LabelTree.class.getDeclaredClasses()) {
            nested(inside);
        }
        members(LabelTree.class);
        words();
        methodLengths();
        check.end();
    }

    private static void face() {
        check.promise(0, "the face");
        Set<String> found = new TreeSet<>();
        for (Method m : LabelTree.class.getDeclaredMethods()) {
            if (Modifier.isPublic(m.getModifiers())) {
                String types = Arrays.toString(m.getParameterTypes()).replaceAll("[\\[\\] ]", "");
                found.add(m.getName() + "(" + types + ")" + m.getReturnType());
            } else {
                check.dueText(m.getName(), Modifier.isPrivate(m.getModifiers()) ? "private" : "seen", "private");
            }
        }
        check.dueText("the face", String.join(" ", found), FACE);
        check.due("public and final", LabelTree.class.getModifiers(), Modifier.PUBLIC | Modifier.FINAL);
    }

    private static void constants() {
        Set<String> seen = new TreeSet<>();
        for (Field f : LabelTree.class.getDeclaredFields()) {
            if (!Modifier.isPrivate(f.getModifiers())) {
                seen.add(Modifier.toString(f.getModifiers()) + " " + f.getType() + " " + f.getName());
            }
        }
        check.dueText("constants", String.join(", ", seen), "public static final int BAD, public static final int FULL, "
                + "public static final int NO, public static final int NONE");
    }

    private static void constructors() {
        Constructor<?>[] all = LabelTree.class.getDeclaredConstructors();
        check.due("constructors", all.length, 1);
        check.due("a public one", all[0].getModifiers(), Modifier.PUBLIC);
        check.due("without parameters", all[0].getParameterCount(), 0);
    }

    private static void nested(Class<?> inside) {
        String name = inside.getSimpleName();
        int m = inside.getModifiers();
        check.due(name + " is static", Modifier.isStatic(m) ? 1 : 0, 1);
        check.due(name + " is not public", Modifier.isPublic(m) || Modifier.isProtected(m) ? 1 : 0, 0);
        members(inside);
        for (Method method : inside.getDeclaredMethods()) {
            boolean taken = (" " + FACE).contains(" " + method.getName() + "(");
            check.due(name + "." + method.getName() + " bears a public name", taken ? 1 : 0, 0);
        }
    }

    private static void members(Class<?> owner) {
        int fields = 0;
        for (Field f : owner.getDeclaredFields()) {
            if (Modifier.isStatic(f.getModifiers())) {
                check.due(owner.getSimpleName() + "." + f.getName() + " is final", Modifier.isFinal(f.getModifiers()) ? 1 : 0, 1);
            } else {
                fields++;
            }
        }
        check.due(owner.getSimpleName() + " has too many fields", fields > 20 ? fields : 0, 0);
        for (Method m : owner.getDeclaredMethods()) {
            check.due(m.getName() + " has too many parameters", m.getParameterCount() > 7 ? 1 : 0, 0);
            if (Modifier.isPrivate(m.getModifiers())) {
                boolean taken = (" " + FACE).contains(" " + m.getName() + "(");
                check.due(m.getName() + " bears a public name", taken ? 1 : 0, 0);
            }
        }
        int classes = LabelTree.class.getDeclaredClasses().length + 1;
        check.due("too many classes", classes > 12 ? classes : 0, 0);
    }

    private static String program() throws IOException {
        return Files.readString(Path.of("src/main/java/LabelTree.java"), StandardCharsets.US_ASCII);
    }

    private static void words() throws IOException {
        String bare = program().replaceAll("(?s)/\\*.*?\\*/", "").replaceAll("//.*", "").replaceAll("\"[^\"]*\"", "\"\"");
        String[] none = {"\\bthrow\\b", "\\bthrows\\b", "\\btry\\b", "\\bcatch\\b", "\\bsynchronized\\b", "\\bassert\\b", "->", "::",
            "Exact\\b", "\\bpackage\\b", "\\bprotected\\b", "\\bSystem\\.(?!arraycopy)", "\\bThread\\b", "\\bRandom\\b",
            "\\bMap\\b", "\\bObject\\b", "\\bfinally\\b", "\\bnative\\b", "\\bvolatile\\b", "\\bvar\\b", "@"};
        for (String word : none) {
            check.due("found " + word, Pattern.compile(word).matcher(bare).find() ? 1 : 0, 0);
        }
        Matcher imports = Pattern.compile("import ([^;]*);").matcher(bare);
        while (imports.find()) {
            check.due("import " + imports.group(1),
                    imports.group(1).matches("java\\.util\\.(Arrays|ArrayList|List|Iterator)") ? 1 : 0, 1);
        }
    }

    private static void methodLengths() throws IOException {
        int start = -1;
        String[] lines = program().split("\n");
        for (int i = 0; i < lines.length; i++) {
            if (lines[i].matches(" {4}( {4})?[a-z].*\\) \\{")) {
                start = i;
            } else if (lines[i].matches(" {4}( {4})?\\}") && start >= 0) {
                check.due("lines of the method at " + (start + 1) + " beyond sixty", Math.max(0, i - start - 60), 0);
                start = -1;
            }
        }
    }
}
