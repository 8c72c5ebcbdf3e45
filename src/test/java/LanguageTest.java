import java.io.IOException;
import java.lang.reflect.Constructor;
import java.lang.reflect.Field;
import java.lang.reflect.Method;
import java.lang.reflect.Modifier;
import java.nio.file.Files;
import java.nio.file.Path;
import java.util.List;
import java.util.Set;
import java.util.TreeSet;
import java.util.regex.Matcher;
import java.util.regex.Pattern;

/** The face of the document, and those rules of LANGUAGE.md that can be seen from the class and its words. */
public final class LanguageTest {
    private static final String[] FACE = {
        "int act(int,int,int)", "int back()", "int begin(int)", "int best(int,int)", "int count(int)", "int edge(int)",
        "int ends(int)", "int feed(int,int)", "int item(int,int,long)", "int link(int,int,int,boolean)", "int may(int)",
        "int newCase(int)", "int of(int,int,int)", "int ought(int)", "int plead(int)", "int put(int,int,int,int)",
        "int reform(int)", "int right(int)", "int row(int,int)", "int rules()", "int shift(int,int,int,int,int)",
        "int stands(int)", "int taken(int,int)", "int tape(int,int,int)", "int told(int,int,int,int)", "int trace(int)",
        "int traps(int,int,int)", "int worth(int)", "long read(int,int)",
    };
    private static final String[] NOT_IN_IT = {
        "\\bthrows?\\b", "\\btry\\b", "\\bcatch\\b", "\\bsynchronized\\b", "\\bassert\\b", "->", "::", "\\bimport\\b", "\\bpackage\\b",
        "\\bSystem\\.(?!arraycopy)", "Exact\\b", "\\bThread\\b", "\\bObject\\b", "\\bvar\\b", "\\binstanceof\\b", "\"\\s*\\+", "\\+\\s*\"",
    };

    private static int wrong = 0;

    public static void main(String[] args) throws IOException {
        face();
        inside();
        words();
        if (wrong > 0) {
            System.exit(1);
        }
    }

    private static void wrong(String what) {
        wrong++;
        System.out.println(what);
    }

    private static void face() {
        Class<?> c = PleasToIssue.class;
        if (!Modifier.isPublic(c.getModifiers()) || !Modifier.isFinal(c.getModifiers())) wrong("the class is not public final");
        Set<String> shown = new TreeSet<>();
        Set<String> names = new TreeSet<>();
        for (Method m : c.getDeclaredMethods()) {
            if (m.isSynthetic()) continue;
            if (Modifier.isPublic(m.getModifiers())) {
                StringBuilder s = new StringBuilder(m.getReturnType() + " " + m.getName() + "(");
                for (Class<?> p : m.getParameterTypes()) s.append(s.charAt(s.length() - 1) == '(' ? "" : ",").append(p);
                shown.add(s + ")");
                names.add(m.getName());
            } else if (!Modifier.isPrivate(m.getModifiers())) {
                wrong("neither public nor private: " + m);
            }
        }
        if (!shown.equals(new TreeSet<>(List.of(FACE)))) wrong("the face is " + shown);
        privateNames(c, names);
        for (Class<?> in : c.getDeclaredClasses()) privateNames(in, names);
        Constructor<?>[] constructors = c.getDeclaredConstructors();
        if (constructors.length != 1 || constructors[0].getParameterCount() != 0 || !Modifier.isPublic(constructors[0].getModifiers())) {
            wrong("the constructor");
        }
        Set<String> constants = new TreeSet<>();
        for (Field f : c.getDeclaredFields()) {
            if (Modifier.isPublic(f.getModifiers())) {
                constants.add(f.getName());
            } else if (!Modifier.isPrivate(f.getModifiers())) {
                wrong("neither public nor private: " + f);
            }
        }
        if (!constants.equals(Set.of("NONE", "BAD", "STATE", "FULL", "NO"))) wrong("the constants are " + constants);
        if (PleasToIssue.NONE != -1 || PleasToIssue.BAD != -2 || PleasToIssue.STATE != -3 || PleasToIssue.FULL != -4) wrong("a constant");
    }

    private static void privateNames(Class<?> c, Set<String> names) {
        for (Method m : c.getDeclaredMethods()) {
            if (Modifier.isPrivate(m.getModifiers()) && names.contains(m.getName())) wrong("a private one bears a public name: " + m);
            if (m.getParameterCount() > 7) wrong("too many parameters: " + m);
        }
    }

    private static void inside() {
        Class<?>[] classes = PleasToIssue.class.getDeclaredClasses();
        if (classes.length > 11) wrong("too many classes: " + classes.length);
        for (Class<?> c : classes) {
            if (!Modifier.isStatic(c.getModifiers()) || Modifier.isPublic(c.getModifiers()) || Modifier.isProtected(c.getModifiers())) {
                wrong("neither private nor package-visible and static: " + c);
            }
            fields(c);
        }
        fields(PleasToIssue.class);
    }

    private static void fields(Class<?> c) {
        int own = 0;
        for (Field f : c.getDeclaredFields()) {
            if (f.isSynthetic()) continue;
            if (!Modifier.isStatic(f.getModifiers())) own++;
            else if (!Modifier.isFinal(f.getModifiers())) wrong("static, but not final: " + f);
        }
        if (own > 20) wrong("too many fields: " + c);
    }

    private static void words() throws IOException {
        String source = Files.readString(Path.of("src/main/java/PleasToIssue.java"));
        String code = source.replaceAll("(?s)/\\*.*?\\*/", "").replaceAll("//[^\n]*", "");
        for (String not : NOT_IN_IT) {
            Matcher found = Pattern.compile(not).matcher(code);
            if (found.find()) wrong("not in the language: " + code.substring(Math.max(0, found.start() - 20), found.end() + 10));
        }
        for (int i = 0; i < source.length(); i++) {
            if (source.charAt(i) > 126) wrong("a sign beyond 126 at " + i);
        }
        int start = 0;
        String[] lines = source.split("\n");
        for (int i = 0; i < lines.length; i++) {
            if (lines[i].matches(" {4}( {4})?\\w[^=;]*\\) \\{")) start = i;
            if (lines[i].matches(" {4}( {4})?\\}") && i - start > 60) wrong("a method of more than 60 lines ends at line " + (i + 1));
            if (lines[i].matches(" {4}private static final class .*")) start = lines.length;
        }
    }
}
