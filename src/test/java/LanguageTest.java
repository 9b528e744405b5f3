import java.io.IOException;
import java.lang.reflect.Constructor;
import java.lang.reflect.Field;
import java.lang.reflect.Method;
import java.lang.reflect.Modifier;
import java.nio.charset.StandardCharsets;
import java.nio.file.Files;
import java.nio.file.Path;
import java.util.Arrays;
import java.util.Set;
import java.util.TreeSet;
import java.util.regex.Matcher;
import java.util.regex.Pattern;

/** The face of the class, and the rules of LANGUAGE.md that can be read off its text; run from the project's folder. */
public final class LanguageTest {
    private static int wrong = 0;

    private static final String FACE = "house(int,int,int,int,int)int hole(int,int,boolean)int bag(int)int say(int)int wipe()int "
        + "fault()int judge(int)int behind(int,int)int town(int)int rid(int)int done()int alone(int,int,int,int)int "
        + "terriers(int)int heard(int,int,int,int)int gnawed(int,int)int forget()int fits(int)int ask(int)int "
        + "chase(int,int,int)int ever(int,int,int,int)long year(int,int,int)int image(int)int restore(int)int told(int)int";
    private static final String CONSTANTS = "UNKNOWN int OUTSIDE int STATE int FULL int NO int NONE int GONE long";
    /** Rules 2, 4, 6 and 13, by the words that would break them. */
    private static final String[] BARRED = {
        "\\bthrow\\b", "\\bthrows\\b", "\\btry\\b", "\\bcatch\\b", "\\bsynchronized\\b", "\\bassert\\b", "->", "::",
        "Exact\\b", "\\bSystem\\.(?!arraycopy)", "\\bThread\\b", "\\bRandom\\b", "\\bpackage\\b", "\\bObject\\b", "\\bhashCode\\b",
        "\\btoString\\b", "^import (?!java\\.util\\.(Arrays|ArrayList|List|Iterator);)", "\\bstatic \\{", "NaN", "\\bprotected\\b"};

    private static void fail(String why) {
        wrong++;
        System.out.println(why);
    }

    public static void main(String[] args) throws IOException {
        String text = Files.readString(Path.of("src/main/java/DoubtCatcher.java"), StandardCharsets.US_ASCII);
        String code = text.replaceAll("(?s)/\\*.*?\\*/", "").replaceAll("//[^\n]*", "");
        face();
        names(DoubtCatcher.class);
        for (Class<?> inside : DoubtCatcher.class.getDeclaredClasses()) {
            inside(inside);
        }
        if (DoubtCatcher.class.getDeclaredClasses().length > 11) {
            fail("rule 11: more than twelve classes");
        }
        for (String barred : BARRED) {
            Matcher m = Pattern.compile(barred, Pattern.MULTILINE).matcher(code);
            if (m.find()) {
                fail("barred: " + barred + " at " + code.substring(m.start(), Math.min(code.length(), m.start() + 40)));
            }
        }
        shortMethods(text);
        System.out.println(wrong == 0 ? "the language is kept" : wrong + " breaches");
        if (wrong != 0) {
            System.exit(1);
        }
    }

    private static void face() {
        Set<String> methods = new TreeSet<>();
        for (Method m : DoubtCatcher.class.getDeclaredMethods()) {
            if (Modifier.isPrivate(m.getModifiers()) || m.isSynthetic()) {
                continue;
            }
            StringBuilder types = new StringBuilder();
            for (Class<?> type : m.getParameterTypes()) {
                types.append(types.length() == 0 ? "" : ",").append(type.getName());
            }
            methods.add(m.getName() + "(" + types + ")" + m.getReturnType().getName());
            if (m.getModifiers() != Modifier.PUBLIC) {
                fail("rule 1: " + m);
            }
        }
        if (!methods.equals(new TreeSet<>(Arrays.asList(FACE.split(" "))))) {
            fail("rule 1: the methods are " + methods);
        }
        StringBuilder constants = new StringBuilder();
        for (Field f : DoubtCatcher.class.getDeclaredFields()) {
            if (!Modifier.isPrivate(f.getModifiers())) {
                constants.append(constants.length() == 0 ? "" : " ").append(f.getName()).append(' ').append(f.getType());
                if (f.getModifiers() != (Modifier.PUBLIC | Modifier.STATIC | Modifier.FINAL)) {
                    fail("rule 1: " + f);
                }
            }
        }
        if (!constants.toString().equals(CONSTANTS)) {
            fail("rule 1: the constants are " + constants);
        }
        Constructor<?>[] made = DoubtCatcher.class.getDeclaredConstructors();
        if (made.length != 1 || made[0].getParameterCount() != 0 || made[0].getModifiers() != Modifier.PUBLIC) {
            fail("rule 1: the constructors are " + Arrays.toString(made));
        }
        if (DoubtCatcher.class.getModifiers() != (Modifier.PUBLIC | Modifier.FINAL)) {
            fail("rule 1: the class is not public and final");
        }
    }

    private static void inside(Class<?> inside) {
        int how = inside.getModifiers();
        if (!Modifier.isStatic(how) || Modifier.isPublic(how) || Modifier.isProtected(how)) {
            fail("rule 1: " + inside);
        }
        names(inside);
    }

    private static void names(Class<?> of) {
        Set<String> face = new TreeSet<>();
        for (String method : FACE.split(" ")) {
            face.add(method.substring(0, method.indexOf('(')));
        }
        for (Method m : of.getDeclaredMethods()) {
            boolean own = of != DoubtCatcher.class || Modifier.isPrivate(m.getModifiers());
            if (own && face.contains(m.getName())) {
                fail("rule 1: " + m + " bears the name of a public one");
            }
            if (m.getParameterCount() > 7) {
                fail("rule 11: " + m);
            }
        }
        int fields = 0;
        for (Field f : of.getDeclaredFields()) {
            fields += Modifier.isStatic(f.getModifiers()) ? 0 : 1;
            if (Modifier.isStatic(f.getModifiers()) && !Modifier.isFinal(f.getModifiers())) {
                fail("rule 5: " + f);
            }
        }
        if (fields > 20) {
            fail("rule 11: " + of + " has " + fields + " fields");
        }
    }

    /** A method begins with a line of 4 or 8 blanks that ends with ") {" and ends with a brace as far in. */
    private static void shortMethods(String text) {
        String[] lines = text.split("\n");
        for (int i = 0; i < lines.length; i++) {
            Matcher m = Pattern.compile("^( {4}| {8})\\w.*\\) \\{$").matcher(lines[i]);
            if (m.matches()) {
                int end = i;
                while (end < lines.length - 1 && !lines[end].equals(m.group(1) + "}")) {
                    end++;
                }
                if (end - i > 60) {
                    fail("rule 11: a method of " + (end - i) + " lines at line " + (i + 1));
                }
            }
        }
    }
}
