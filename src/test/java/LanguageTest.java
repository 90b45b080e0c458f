import java.io.IOException;
import java.lang.reflect.Field;
import java.lang.reflect.Member;
import java.lang.reflect.Method;
import java.lang.reflect.Modifier;
import java.nio.file.Files;
import java.nio.file.Path;
import java.util.ArrayList;
import java.util.Arrays;
import java.util.List;
import java.util.TreeSet;
import java.util.regex.Matcher;
import java.util.regex.Pattern;

/** The face of the class, and those rules of ../shared/LANGUAGE.md that can be seen in its text. */
public final class LanguageTest {
    private static final Checks CHECKS = new Checks();
    private static final Path SOURCE = Path.of("src/main/java/DisturbedCells.java");
    private static final String[] FACE = {
        "int at(int)", "int blank()", "int cell(int,int)", "int count(int)", "long digest()", "int fault()",
        "int found(int,int,int)", "int gray()", "int letter(int)", "int run(int,int)", "int scramble(int,int,int)",
        "int seen(int)", "int sheet(int,int)", "int step(int)", "int test()",
    };
    private static final String[] FORBIDDEN = {
        "\\bthrow\\b", "\\btry\\b", "\\bcatch\\b", "\\bsynchronized\\b", "\\bassert\\b", "->", "::", "\\bimport\\b",
        "\\bpackage\\b", "\\bnew\\s+\\w+\\s*\\([^)]*\\)\\s*\\{", "\\bstatic\\s*\\{", "Exact\\b", "\\bSystem\\.(?!arraycopy)",
        "\\bThread\\b", "\\bRandom\\b", "\\bequals\\b", "\\bhashCode\\b", "\\btoString\\b", "\\bwhile\\b", "\\bprotected\\b",
    };

    public static void main(String[] args) throws IOException {
        face();
        for (Class<?> inner : DisturbedCells.class.getDeclaredClasses()) {
            CHECKS.holds(inner + " is static", Modifier.isStatic(inner.getModifiers()));
            CHECKS.holds(inner + " is not public", !Modifier.isPublic(inner.getModifiers()));
            names(inner);
            sizes(inner);
        }
        CHECKS.holds("some twelve classes", DisturbedCells.class.getDeclaredClasses().length < 12);
        text(Files.readString(SOURCE));
        CHECKS.end();
    }

    private static void face() {
        Class<?> c = DisturbedCells.class;
        CHECKS.holds("public and final", Modifier.isPublic(c.getModifiers()) && Modifier.isFinal(c.getModifiers()));
        TreeSet<String> open = new TreeSet<>();
        for (Method m : c.getDeclaredMethods()) {
            if (Modifier.isPrivate(m.getModifiers()) || m.isSynthetic()) continue;
            CHECKS.holds(m + " is public, not static", m.getModifiers() == Modifier.PUBLIC);
            open.add(m.getReturnType() + " " + m.getName()
                    + Arrays.toString(m.getParameterTypes()).replace(" ", "").replace('[', '(').replace(']', ')'));
        }
        CHECKS.holds("the methods are " + open, open.equals(new TreeSet<>(Arrays.asList(FACE))));
        List<String> fields = new ArrayList<>();
        Arrays.stream(c.getDeclaredFields()).filter(f -> isOpen(f)).forEach(f -> fields.add(f.getName()));
        CHECKS.holds("the constants are " + fields, fields.equals(List.of("NONE", "UNKNOWN", "OUTSIDE", "STATE", "FULL")));
        CHECKS.due("constructors", c.getDeclaredConstructors().length, 1);
        CHECKS.due("its modifiers", c.getDeclaredConstructors()[0].getModifiers(), Modifier.PUBLIC);
        CHECKS.due("its parameters", c.getDeclaredConstructors()[0].getParameterCount(), 0);
        CHECKS.holds("a class of its own", c.getSuperclass() == Object.class && c.getInterfaces().length == 0);
        Arrays.stream(c.getDeclaredFields()).filter(f -> isOpen(f)).forEach(f -> constant(f));
        names(c);
        sizes(c);
    }

    private static void constant(Field field) {
        CHECKS.holds(field + " is an int", field.getType() == int.class);
        CHECKS.due(field + "'s modifiers", field.getModifiers(), Modifier.PUBLIC | Modifier.STATIC | Modifier.FINAL);
    }

    /** Rules 5 and 11: static fields are final, a class has some twenty beside, a method up to seven parameters. */
    private static void sizes(Class<?> c) {
        int fields = 0;
        for (Field field : c.getDeclaredFields()) {
            boolean isStatic = Modifier.isStatic(field.getModifiers());
            CHECKS.holds(field + " is final if static", !isStatic || Modifier.isFinal(field.getModifiers()));
            fields += isStatic ? 0 : 1;
        }
        CHECKS.holds(c + " has some twenty fields", fields <= 20);
        for (Method m : c.getDeclaredMethods()) {
            CHECKS.holds(m + " has up to seven parameters", m.getParameterCount() <= 7);
            CHECKS.due(m + " declares exceptions", m.getExceptionTypes().length, 0);
        }
    }

    private static boolean isOpen(Member member) {
        return !Modifier.isPrivate(member.getModifiers());
    }

    /** No private method, nor one of a class inside, bears the name of a public one. */
    private static void names(Class<?> c) {
        for (Method m : c.getDeclaredMethods()) {
            if (Modifier.isPublic(m.getModifiers())) continue;
            for (String call : FACE) {
                CHECKS.holds(m + " has a name of its own", !call.contains(" " + m.getName() + "("));
            }
        }
    }

    private static void text(String whole) {
        CHECKS.holds("signs of 1 to 127", whole.chars().allMatch(sign -> sign >= 1 && sign <= 127));
        String code = whole.replaceAll("(?s)/\\*.*?\\*/", "").replaceAll("//[^\n]*", "");
        for (String word : FORBIDDEN) {
            Matcher m = Pattern.compile(word).matcher(code);
            CHECKS.holds("no " + word, !m.find());
        }
        madeInConstructorsAlone(code.split("\n"));
        methodsAreShort(whole.split("\n"));
    }

    /** All calls of a run live in one room: what is made is made with the object, and used again. */
    private static void madeInConstructorsAlone(String[] lines) {
        for (String line : lines) {
            if (!line.matches(".*\\bnew\\b.*")) continue;
            CHECKS.holds("made with the object: " + line.trim(),
                    line.matches(" +private final \\w+\\[\\] \\w+ = new .*") || line.matches(" +(page|steps|plane|bench) = new .*"));
        }
    }

    private static void methodsAreShort(String[] lines) {
        int since = 0;
        for (int i = 0; i < lines.length; i++) {
            if (lines[i].matches("( {4}| {8})(\\w.*)?\\w+\\(.*\\) \\{")) since = i;
            if (lines[i].matches("( {4}| {8})\\}")) {
                CHECKS.holds("short up to line " + (i + 1), since == 0 || i - since < 60);
                since = 0;
            }
        }
    }
}
