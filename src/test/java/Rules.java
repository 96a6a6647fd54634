import java.lang.reflect.Constructor;
import java.lang.reflect.Field;
import java.lang.reflect.Method;
import java.lang.reflect.Modifier;
import java.nio.file.Files;
import java.nio.file.Path;
import java.util.ArrayList;
import java.util.Arrays;
import java.util.List;
import java.util.Set;
import java.util.TreeSet;
import java.util.regex.Matcher;
import java.util.regex.Pattern;

/** The class's face is the document's, and its text keeps to those rules of LANGUAGE.md that can be counted. */
public final class Rules {
    private static final String[] FACE = {
        "boolean again(int)", "boolean annul(int)", "boolean broken(int, boolean)", "boolean dry(int, boolean)",
        "boolean field(int, int)", "boolean image(int)", "boolean open(int, int)", "boolean size(int, int)",
        "int about(int, int)", "int all(int, boolean)", "int along(int, int, int)",
        "int channel(int, int, int, int, int, int)", "int count(int)", "int deed(int, int, int, int)",
        "int duty(int, int, int)", "int end(int)", "int fault(int)", "int feed(int, int, int, int, int)",
        "int gauge(int, int, int, int)", "int go(int)", "int holder(int, int, int)", "int laid(int, int, int, int, int)",
        "int lay(int, int, int, int, int)", "int look(int, int)", "int node(int, int)", "int owed(int)",
        "int owner(int, int, int)", "int path(int, int)", "int ran(int)", "int statute()", "int stolen(int, int, int)",
        "int written(int, int)"};
    private static final String[] FORBIDDEN = {
        "\\bthrow\\b", "\\btry\\b", "\\bcatch\\b", "\\bsynchronized\\b", "\\bassert\\b", "->", "::", "Exact\\(", "\\bfloat\\b",
        "\\bdouble\\b", "\\bequals\\(Object", "hashCode", "toString\\(\\) *\\{", "\\bprotected\\b", "@"};
    private static int wrong = 0;

    private static void due(String what, boolean is) {
        if (!is) {
            wrong++;
            System.out.println("broken: " + what);
        }
    }

    private static String signature(Method m) {
        StringBuilder s = new StringBuilder(m.getReturnType() + " " + m.getName() + "(");
        for (Class<?> p : m.getParameterTypes()) {
            s.append(s.charAt(s.length() - 1) == '(' ? "" : ", ").append(p);
        }
        return s.append(")").toString();
    }

    private static void face() throws Exception {
        due("the class is public and final", Modifier.isPublic(CliffWater.class.getModifiers())
            && Modifier.isFinal(CliffWater.class.getModifiers()));
        Set<String> methods = new TreeSet<>();
        for (Method m : CliffWater.class.getDeclaredMethods()) {
            if (Modifier.isPublic(m.getModifiers())) {
                methods.add(signature(m));
                due(m.getName() + " is no static method", !Modifier.isStatic(m.getModifiers()));
            } else {
                due(m.getName() + " is private", m.isSynthetic() || Modifier.isPrivate(m.getModifiers()));
            }
        }
        due("the face " + methods, methods.equals(new TreeSet<>(Arrays.asList(FACE))));
        Constructor<?>[] made = CliffWater.class.getDeclaredConstructors();
        due("one public constructor without arguments",
            made.length == 1 && Modifier.isPublic(made[0].getModifiers()) && made[0].getParameterCount() == 0);
        for (Field f : CliffWater.class.getDeclaredFields()) {
            due(f.getName() + " is private", f.getName().equals("NONE") || Modifier.isPrivate(f.getModifiers()));
        }
        Field none = CliffWater.class.getDeclaredField("NONE");
        due("NONE is public, static and final", none.getModifiers() == (Modifier.PUBLIC | Modifier.STATIC | Modifier.FINAL));
    }

    private static void members() {
        Set<String> names = new TreeSet<>();
        for (String f : FACE) {
            names.add(f.substring(f.indexOf(' ') + 1, f.indexOf('(')));
        }
        List<Class<?>> classes = new ArrayList<>(Arrays.asList(CliffWater.class.getDeclaredClasses()));
        due("some twelve classes", classes.size() <= 11);
        classes.add(CliffWater.class);
        for (Class<?> c : classes) {
            int fields = 0;
            for (Field f : c.getDeclaredFields()) {
                due("static " + f.getName() + " is final", !Modifier.isStatic(f.getModifiers()) || Modifier.isFinal(f.getModifiers()));
                fields += Modifier.isStatic(f.getModifiers()) ? 0 : 1;
            }
            due(c.getName() + " has at most twenty fields", fields <= 20);
            due(c.getName() + " is static", c == CliffWater.class || Modifier.isStatic(c.getModifiers()));
            for (Method m : c.getDeclaredMethods()) {
                due(m.getName() + " has at most seven parameters", m.getParameterCount() <= 7);
                due(c.getName() + "." + m.getName() + " bears a public method's name",
                    !names.contains(m.getName()) || Modifier.isPublic(m.getModifiers()));
            }
        }
    }

    private static void text() throws Exception {
        String source = Files.readString(Path.of("src/main/java/CliffWater.java"));
        String code = source.replaceAll("(?s)/\\*.*?\\*/", "").replaceAll("//[^\n]*", "");
        for (String f : FORBIDDEN) {
            due(f + " stands in the text", !Pattern.compile(f).matcher(code).find());
        }
        Matcher imports = Pattern.compile("import ([^;]*);").matcher(code);
        while (imports.find()) {
            due("import " + imports.group(1), imports.group(1).equals("java.util.Arrays"));
        }
        for (int i = 0; i < source.length(); i++) {
            due("a sign above 127 at " + i, source.charAt(i) <= 127);
        }
        due("a text joined by +", !Pattern.compile("\" *\\+|\\+ *\"").matcher(code).find());
        int start = 0;
        String[] lines = source.split("\n");
        for (int i = 0; i < lines.length; i++) {
            if (lines[i].matches(" {4,8}[a-z].*\\) \\{")) {
                start = i;
            }
            if (lines[i].matches(" {4,8}\\}")) {
                due("the method at line " + (start + 1) + " is short", i - start <= 60 || start == 0);
            }
        }
    }

    public static void main(String[] args) throws Exception {
        face();
        members();
        text();
        System.out.println(wrong == 0 ? "the rules are kept" : wrong + " rules are broken");
        if (wrong != 0) {
            System.exit(1);
        }
    }
}
