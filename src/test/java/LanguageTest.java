import java.lang.reflect.Constructor;
import java.lang.reflect.Field;
import java.lang.reflect.Method;
import java.lang.reflect.Modifier;
import java.nio.file.Files;
import java.nio.file.Path;
import java.util.HashSet;
import java.util.List;
import java.util.Set;
import java.util.TreeSet;
import java.util.regex.Matcher;
import java.util.regex.Pattern;

/** The face of the class, and those rules of LANGUAGE.md that can be seen from outside. */
public final class LanguageTest {
    private static final Check CHECK = new Check();
    private static final Set<String> FACE = new TreeSet<>(List.of(
        "int feed(int,int,int,int,int)", "int end(int)", "int house()", "int has(int)", "int cost(int,int)",
        "int task(int,long)", "int goes(int,int)", "int drop()", "boolean begin(int)", "int letter(int)",
        "int row(int)", "int ticket(int,int)", "int walk(int,int,int)", "int least(int)", "int walked(int)",
        "int mend(int,int)", "int count(int)"));
    private static final List<String> FORBIDDEN = List.of(
        "\\b(throw|throws|try|catch|finally|synchronized|assert|protected|volatile|native)\\b", "->", "::",
        "\\bMath\\.\\w+Exact\\b", "\\bSystem\\.(?!arraycopy)", "\\bimport (?!java\\.util\\.(Arrays|ArrayList|List);)",
        "\\bpackage\\b", "\\bstatic\\s*\\{", "\\b(MAX|MIN)_VALUE\\b", "\\bObject\\b", "\\bvar\\b");

    public static void main(String[] args) throws Exception {
        face();
        names();
        source(Files.readString(Path.of("src/main/java/TicketJudge.java")));
        CHECK.finish();
    }

    private static String signature(Method m) {
        StringBuilder b = new StringBuilder(m.getReturnType() + " " + m.getName() + "(");
        for (Class<?> c : m.getParameterTypes()) {
            b.append(b.charAt(b.length() - 1) == '(' ? "" : ",").append(c);
        }
        return b.append(')').toString();
    }

    private static void face() throws Exception {
        Class<?> c = TicketJudge.class;
        CHECK.due("the class is public and final", c.getModifiers(), Modifier.PUBLIC | Modifier.FINAL);
        Set<String> open = new TreeSet<>();
        for (Method m : c.getDeclaredMethods()) {
            if (!Modifier.isPrivate(m.getModifiers()) && !m.isSynthetic()) {
                open.add(signature(m));
                CHECK.due(m + " is public alone", m.getModifiers(), Modifier.PUBLIC);
            }
        }
        CHECK.due("the open methods " + open, open.equals(FACE), true);
        Constructor<?>[] made = c.getDeclaredConstructors();
        CHECK.due("constructors", made.length, 1);
        CHECK.due("its parameters", made[0].getParameterCount(), 0);
        CHECK.due("it is public", made[0].getModifiers(), Modifier.PUBLIC);
        for (Field f : c.getDeclaredFields()) {
            CHECK.due(f + " is private", Modifier.isPrivate(f.getModifiers()) || f.getName().equals("NONE"), true);
        }
        Field none = c.getDeclaredField("NONE");
        CHECK.due("NONE", none.getModifiers(), Modifier.PUBLIC | Modifier.STATIC | Modifier.FINAL);
        CHECK.due("NONE is an int", none.getType() == int.class, true);
    }

    private static void names() {
        Set<String> names = new HashSet<>();
        for (String s : FACE) {
            names.add(s.substring(s.indexOf(' ') + 1, s.indexOf('(')));
        }
        Class<?>[] inside = TicketJudge.class.getDeclaredClasses();
        CHECK.due("at most twelve classes", inside.length < 12, true);
        for (Class<?> c : inside) {
            CHECK.due(c + " is static", Modifier.isStatic(c.getModifiers()), true);
            CHECK.due(c + " is not public", Modifier.isPublic(c.getModifiers()), false);
            for (Method m : c.getDeclaredMethods()) {
                CHECK.due(m + " bears a name of the face", names.contains(m.getName()), false);
            }
            fields(c);
        }
        for (Method m : TicketJudge.class.getDeclaredMethods()) {
            boolean bears = Modifier.isPrivate(m.getModifiers()) && names.contains(m.getName());
            CHECK.due(m + " bears a name of the face", bears, false);
            CHECK.due(m + " takes seven at most", m.getParameterCount() <= 7, true);
        }
        fields(TicketJudge.class);
    }

    private static void fields(Class<?> c) {
        int count = 0;
        for (Field f : c.getDeclaredFields()) {
            boolean isStatic = Modifier.isStatic(f.getModifiers());
            count += isStatic ? 0 : 1;
            CHECK.due(f + " is final if static", !isStatic || Modifier.isFinal(f.getModifiers()), true);
        }
        CHECK.due(c + " has twenty fields at most", count <= 20, true);
    }

    private static void source(String text) {
        String code = text.replaceAll("(?s)/\\*.*?\\*/", "").replaceAll("//[^\n]*", "");
        for (String pattern : FORBIDDEN) {
            Matcher m = Pattern.compile(pattern).matcher(code);
            boolean found = m.find();
            CHECK.due("forbidden: " + (found ? m.group() : pattern), found, false);
        }
        for (char c : text.toCharArray()) {
            if (c > 126 || c < 32 && c != '\n') {
                CHECK.due("a sign of the source", c, 32);
            }
        }
    }
}
