import java.io.IOException;
import java.lang.reflect.Constructor;
import java.lang.reflect.Field;
import java.lang.reflect.Method;
import java.lang.reflect.Modifier;
import java.nio.file.Files;
import java.nio.file.Path;
import java.util.ArrayList;
import java.util.Collections;
import java.util.HashSet;
import java.util.List;
import java.util.Set;
import java.util.regex.Matcher;
import java.util.regex.Pattern;

/** The face of the class is the document's, and its source keeps to those rules of LANGUAGE.md that can be seen. */
public final class FaceTest {
    private static final String[] FACE = {
        "int as(int,int)", "int ask(int,int)", "int been(int,int,int,int)", "int cargo()", "int cast(int)",
        "int copy(int,int,int,int,int)", "int count(int)", "int drop(int)", "int fault()", "int feed(int)",
        "int hour()", "int image(int)", "int joins(int)", "int kind(int)", "int likeliest()",
        "int person(int,int)", "int price(int,int,int)", "int restore(int)", "int row(int,int,int)",
        "int sea(int)", "int set(int,int,int)", "int ship()", "int status()", "int storm(int,int,int)",
        "int sure(int,int)", "int tells()", "int throwOver(int,int)", "int trace(int)", "int undo()",
        "long belief(int,int)", "long likelihood(int)", "long named(int,int)", "long saved(int,int)"
    };
    private static final String FORBIDDEN = "\\b(throw|throws|try|catch|synchronized|assert|finally|native|volatile"
        + "|transient|float|double|var|Object|Map|HashMap|Random|Thread|Optional|Stream|\\w+Exact|exit|currentTimeMillis"
        + "|nanoTime|println|hashCode|toString)\\b|->|::|\\bimport (?!java\\.util\\.Arrays;)";
    private static final Check check = new Check();

    private FaceTest() {
    }

    public static void main(String[] args) throws IOException {
        check.where = "face";
        members();
        String source = Files.readString(Path.of("src/main/java/StormLots.java"));
        check.where = "source";
        words(bare(source));
        names();
        lengths(source);
        check.end();
    }

    private static boolean isPrivate(int modifiers) {
        return Modifier.isPrivate(modifiers);
    }

    private static void members() {
        Class<?> c = StormLots.class;
        check.holds("public and final", Modifier.isPublic(c.getModifiers()) && Modifier.isFinal(c.getModifiers()));
        List<String> methods = new ArrayList<>();
        for (Method m : c.getDeclaredMethods()) {
            if (!isPrivate(m.getModifiers())) {
                check.holds(m.getName() + " is of an object", m.getModifiers() == Modifier.PUBLIC);
                methods.add(m.getReturnType() + " " + m.getName() + parameters(m));
            }
        }
        Collections.sort(methods);
        check.holds("methods " + methods, methods.equals(List.of(FACE)));
        List<String> fields = new ArrayList<>();
        for (Field f : c.getDeclaredFields()) {
            if (!isPrivate(f.getModifiers())) {
                fields.add(Modifier.toString(f.getModifiers()) + " " + f.getType() + " " + f.getName());
            }
            check.holds(f.getName() + " is final, if static",
                !Modifier.isStatic(f.getModifiers()) || Modifier.isFinal(f.getModifiers()));
        }
        String constant = "public static final int ";
        check.holds("constants " + fields, fields.equals(List.of(constant + "NONE", constant + "BAD",
            constant + "STATE", constant + "FULL")));
        Constructor<?>[] made = c.getDeclaredConstructors();
        check.holds("one constructor", made.length == 1 && made[0].getParameterCount() == 0
            && Modifier.isPublic(made[0].getModifiers()));
        check.holds("classes", c.getDeclaredClasses().length < 12);
        for (Class<?> inside : c.getDeclaredClasses()) {
            check.holds(inside.getName() + " is static", Modifier.isStatic(inside.getModifiers()));
        }
    }

    private static String parameters(Method m) {
        StringBuilder b = new StringBuilder("(");
        for (Class<?> p : m.getParameterTypes()) {
            b.append(b.length() > 1 ? "," : "").append(p);
        }
        return b.append(")").toString();
    }

    private static String bare(String source) {
        return source.replaceAll("(?s)/\\*.*?\\*/", " ").replaceAll("//[^\n]*", " ");
    }

    private static void words(String bare) {
        Matcher m = Pattern.compile(FORBIDDEN).matcher(bare);
        while (m.find()) {
            check.holds("no " + m.group(), false);
        }
        check.holds("no text", bare.indexOf('"') < 0);
        check.holds("no package", !bare.contains("package "));
    }

    /** No method of the classes inside bears the name of a public one, nor does a private one. */
    private static void names() {
        Set<String> face = new HashSet<>();
        for (String f : FACE) {
            face.add(f.substring(f.indexOf(' ') + 1, f.indexOf('(')));
        }
        for (Method m : StormLots.class.getDeclaredMethods()) {
            check.holds(m.getName(), !isPrivate(m.getModifiers()) || !face.contains(m.getName()));
        }
        for (Class<?> inside : StormLots.class.getDeclaredClasses()) {
            int fields = 0;
            for (Method m : inside.getDeclaredMethods()) {
                check.holds(inside.getName() + " " + m.getName(), !face.contains(m.getName()));
                check.holds(m.getName() + " has few parameters", m.getParameterCount() <= 7);
            }
            for (Field f : inside.getDeclaredFields()) {
                fields += Modifier.isStatic(f.getModifiers()) ? 0 : 1;
            }
            check.holds(inside.getName() + " has few fields", fields <= 20);
        }
    }

    private static void lengths(String source) {
        int begun = 0;
        String[] lines = source.split("\n");
        for (int i = 0; i < lines.length; i++) {
            if (lines[i].matches(" {4,8}\\S.*\\) \\{")) {
                begun = i;
            } else if (lines[i].matches(" {4,8}\\}")) {
                check.holds("a short method at line " + begun, i - begun <= 60);
            }
            check.holds("line " + (i + 1) + " is not too long", lines[i].length() <= 120);
        }
    }
}
