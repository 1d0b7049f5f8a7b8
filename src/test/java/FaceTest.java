import java.io.IOException;
import java.lang.reflect.Constructor;
import java.lang.reflect.Field;
import java.lang.reflect.Method;
import java.lang.reflect.Modifier;
import java.nio.file.Files;
import java.nio.file.Path;
import java.util.Set;
import java.util.TreeSet;
import java.util.regex.Matcher;
import java.util.regex.Pattern;

/** The face that the document tells, and the rules of LANGUAGE.md that can be seen in the text. */
public final class FaceTest {
    private static final String[] METHODS = {"int post(int,int)", "int listened(int,int,int,int)",
        "int mark(int,int,int,int,int)", "boolean wedge(int,int,int,int,int)", "boolean joins(int,int)",
        "int senders()", "int senderOf(int)", "int sender(int,int)", "int place(int,int)", "int box(int,int)",
        "int minutes(int,int,int,int)", "int blind(int,int,int)", "int feed(int,int,int,int,int)",
        "int end(int)", "int licence()", "int fault(int)", "int fits(int,int)", "int best(int,int)",
        "int wanderers()", "int sweep(int,int,int,int)", "int slot(int)", "int about(int)"};
    private static final String[] FORBIDDEN = {"\\bthrow\\b", "\\btry\\b", "\\bcatch\\b", "\\bimport\\b",
        "\\bpackage\\b", "\\bsynchronized\\b", "\\bassert\\b", "->", "::", "\\bnull\\b", "Exact\\b", "\\bdouble\\b",
        "\\bfloat\\b", "\\bSystem\\b", "\\bprotected\\b", "\\[\\]\\[\\]\\[\\]", "@"};

    private FaceTest() {
    }

    public static void main(String[] args) throws IOException {
        face();
        inside();
        text(Files.readString(Path.of("src/main/java/AirWatch.java")));
        Check.finish();
    }

    private static String told(Method m) {
        StringBuilder all = new StringBuilder(m.getReturnType() + " " + m.getName() + "(");
        for (int i = 0; i < m.getParameterCount(); i++) {
            all.append(i == 0 ? "" : ",").append(m.getParameterTypes()[i]);
        }
        return all.append(")").toString();
    }

    private static void face() {
        Set<String> want = new TreeSet<>(Set.of(METHODS));
        Set<String> names = new TreeSet<>();
        Set<String> open = new TreeSet<>();
        for (Method m : AirWatch.class.getDeclaredMethods()) {
            if (!Modifier.isPrivate(m.getModifiers())) {
                Check.due("public " + told(m), Modifier.isPublic(m.getModifiers()), true);
                open.add(told(m));
                names.add(m.getName());
            }
        }
        Check.due("the methods " + open, open.equals(want), true);
        for (Method m : AirWatch.class.getDeclaredMethods()) {
            boolean hidden = Modifier.isPrivate(m.getModifiers());
            Check.due("a private " + m.getName(), hidden && names.contains(m.getName()), false);
        }
        for (Field f : AirWatch.class.getDeclaredFields()) {
            boolean right = f.getName().equals("NONE") || Modifier.isPrivate(f.getModifiers());
            Check.due("the field " + f.getName(), right, true);
        }
        Constructor<?>[] made = AirWatch.class.getDeclaredConstructors();
        Check.due("constructors", made.length, 1);
        Check.due("without arguments", made[0].getParameterCount(), 0);
        Check.due("public", Modifier.isPublic(made[0].getModifiers()), true);
        int kind = AirWatch.class.getModifiers();
        Check.due("a public final class", Modifier.isPublic(kind) && Modifier.isFinal(kind), true);
    }

    private static boolean isCall(String name) {
        for (String method : METHODS) {
            if (method.contains(" " + name + "(")) {
                return true;
            }
        }
        return false;
    }

    private static void inside() {
        Class<?>[] all = AirWatch.class.getDeclaredClasses();
        Check.due("at most twelve classes", all.length <= 12, true);
        for (Class<?> one : all) {
            int fields = 0;
            for (Field f : one.getDeclaredFields()) {
                boolean fixed = Modifier.isStatic(f.getModifiers());
                Check.due("static and not final " + f, fixed && !Modifier.isFinal(f.getModifiers()), false);
                fields += fixed ? 0 : 1;
            }
            Check.due("at most twenty fields in " + one, fields <= 20, true);
            Check.due("static " + one, Modifier.isStatic(one.getModifiers()), true);
            Check.due("not open " + one, Modifier.isPublic(one.getModifiers()), false);
            for (Method m : one.getDeclaredMethods()) {
                Check.due("named as a call: " + m, isCall(m.getName()), false);
                Check.due("at most seven arguments of " + m, m.getParameterCount() <= 7, true);
            }
        }
    }

    private static void text(String file) {
        String code = file.replaceAll("(?s)/\\*.*?\\*/", "").replaceAll("//[^\n]*", "");
        for (String rule : FORBIDDEN) {
            Matcher m = Pattern.compile(rule).matcher(code);
            Check.due("the file has " + rule, m.find(), false);
        }
        for (char sign : file.toCharArray()) {
            if (sign > 126) {
                Check.due("a sign of the file", sign, ' ');
            }
        }
        Matcher body = Pattern.compile("(?m)^( {4}| {8})(?!static)[a-z][^\n;=]*\\) \\{\n(?s:(.*?))\n\\1\\}").matcher(file);
        int methods = 0;
        while (body.find()) {
            methods++;
            Check.due("a method of at most 60 lines: " + body.group(), body.group().split("\n").length <= 60, true);
        }
        Check.due("the methods were found", methods > 60, true);
    }
}
