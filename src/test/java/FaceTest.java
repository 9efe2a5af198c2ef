import java.io.IOException;
import java.lang.reflect.Constructor;
import java.lang.reflect.Field;
import java.lang.reflect.Method;
import java.lang.reflect.Modifier;
import java.nio.file.Files;
import java.nio.file.Path;
import java.util.ArrayList;
import java.util.Collections;
import java.util.List;
import java.util.regex.Matcher;
import java.util.regex.Pattern;

/** The class has the document's face and no other, and its text keeps to the rules that can be seen in it. */
public final class FaceTest {
    private static final String A = "IllegalArgumentException";
    private static final String I = "IndexOutOfBoundsException";
    private static final String N = "NoSuchElementException";
    private static final String S = "IllegalStateException";
    private static final String U = "UnsupportedOperationException";
    private static final String[] FACE = {
        "int feed(int,int,int,int,int)", "boolean end(int)", "int law() " + A + " " + U, "int rule() " + A + " " + U,
        "int fault()", "int dull(int,int,int) " + I + " " + A, "int house(int) " + A + " " + U,
        "void look(int,int,int) " + I + " " + A, "int pack(int,int,int) " + A + " " + U, "int card(int,int) " + I,
        "int put(int,int,int,int,int) " + I + " " + S + " " + A, "int later(int) " + A,
        "int go(int,int) " + I + " " + S + " " + A, "int about(int,int,int) " + I + " " + S + " " + N,
        "int holds(int,int,int) " + I + " " + S, "int awaited(int,int) " + I + " " + S,
        "int say(int,int,int) " + I + " " + S, "int kind(int,int) " + I + " " + S, "int run(int,int,int) " + I + " " + S,
        "int odds(int,int,int,int,boolean) " + I + " " + S + " " + A, "int kinds(int,int) " + I + " " + S + " " + A,
        "int score(int,int) " + I + " " + S, "int fits(int,int) " + I + " " + S + " " + A,
        "int lacks(int,int) " + I + " " + S + " " + A, "int guess(int,int,int) " + I + " " + S + " " + N,
        "int moment(int) " + A + " " + U, "int moments()", "int again(int,int,int,int,boolean) " + I + " " + S + " " + A,
        "int houses(int,int,int,int) " + I + " " + A, "int unlike(int,boolean)",
        "int per(int,int,int,int,boolean) " + I + " " + A, "int plan(int,int,int,int,int) " + I + " " + A,
        "int last(int,int,int) " + I + " " + A, "void chance(int,int) " + A, "long risk(int,boolean) " + A,
        "int week(int) " + A + " " + U, "int rates(int,int) " + A + " " + N, "int dullest()", "int change(int) " + I,
        "void image()", "boolean back()", "int count(int)"};
    private static int wrong = 0;

    public static void main(String[] args) throws IOException {
        face();
        text(Files.readString(Path.of("src/main/java/MemoryHouse.java")));
        System.out.println(wrong == 0 ? "the face is the document's" : wrong + " faults of the face or the text");
        if (wrong != 0) {
            System.exit(1);
        }
    }

    private static void need(boolean good, String what) {
        if (!good) {
            wrong++;
            System.out.println(what);
        }
    }

    private static void face() {
        Class<?> c = MemoryHouse.class;
        need(Modifier.isPublic(c.getModifiers()) && Modifier.isFinal(c.getModifiers()), "not public and final");
        List<String> methods = new ArrayList<>();
        List<String> own = new ArrayList<>();
        for (Method m : c.getDeclaredMethods()) {
            if (Modifier.isPrivate(m.getModifiers())) {
                own.add(m.getName());
            } else {
                need(Modifier.isPublic(m.getModifiers()) && !Modifier.isStatic(m.getModifiers()), "not public: " + m);
                methods.add(signature(m));
            }
        }
        List<String> due = new ArrayList<>(List.of(FACE));
        Collections.sort(due);
        Collections.sort(methods);
        need(due.equals(methods), "methods are " + methods + ", due are " + due);
        for (Method m : c.getDeclaredMethods()) {
            need(!Modifier.isPublic(m.getModifiers()) || !own.contains(m.getName()), "a private " + m.getName());
        }
        for (Field f : c.getDeclaredFields()) {
            need(Modifier.isPrivate(f.getModifiers()) || f.getName().equals("NONE"), "not private: " + f);
            need(!Modifier.isStatic(f.getModifiers()) || Modifier.isFinal(f.getModifiers()), "not final: " + f);
        }
        Constructor<?>[] made = c.getDeclaredConstructors();
        need(made.length == 1 && Modifier.isPublic(made[0].getModifiers()) && made[0].getParameterCount() == 0,
                "the constructor is another");
        for (Class<?> inside : c.getDeclaredClasses()) {
            need(Modifier.isPrivate(inside.getModifiers()) && Modifier.isStatic(inside.getModifiers()), "" + inside);
            int fields = 0;
            for (Field f : inside.getDeclaredFields()) {
                fields += Modifier.isStatic(f.getModifiers()) ? 0 : 1;
                need(!Modifier.isStatic(f.getModifiers()) || Modifier.isFinal(f.getModifiers()), "not final: " + f);
            }
            need(fields <= 20, inside + " has " + fields + " fields");
        }
        need(c.getDeclaredClasses().length < 12, "too many classes");
    }

    private static String signature(Method m) {
        StringBuilder b = new StringBuilder(m.getReturnType().getSimpleName()).append(' ').append(m.getName());
        b.append('(');
        for (int k = 0; k < m.getParameterCount(); k++) {
            b.append(k == 0 ? "" : ",").append(m.getParameterTypes()[k].getSimpleName());
        }
        b.append(')');
        for (Class<?> e : m.getExceptionTypes()) {
            b.append(' ').append(e.getSimpleName());
        }
        return b.toString();
    }

    private static void text(String whole) {
        String code = whole.replaceAll("(?s)/\\*.*?\\*/", " ").replaceAll("\"[^\"\n]*\"", "\"\"");
        for (String none : new String[] {"->", "::", "\\btry\\b", "\\bcatch\\b", "\\bfinally\\b", "\\bassert\\b",
            "synchronized", "\\bpackage\\b", "Exact\\(", "\\bdouble\\b", "\\bfloat\\b", "hashCode", "toString",
            "\"\" \\+", "\\+ \"\"", "//", "@"}) {
            Matcher m = Pattern.compile(none).matcher(code);
            need(!m.find(), "the text has " + none);
        }
        for (String line : code.split("\n")) {
            need(!line.startsWith("import ") || line.equals("import java.util.Arrays;")
                    || line.equals("import java.util.NoSuchElementException;"), line);
            need(line.length() <= 120, "a long line: " + line);
        }
        Matcher calls = Pattern.compile("\\b(Math|Integer|Long|Arrays|System|String)\\.(\\w+)").matcher(code);
        while (calls.find()) {
            need(List.of("abs", "min", "max", "floorDiv", "bitCount", "fill", "copyOf", "arraycopy")
                    .contains(calls.group(2)), "the text calls " + calls.group());
        }
        methodsAreShort(code.split("\n"));
    }

    private static void methodsAreShort(String[] lines) {
        Pattern head = Pattern.compile("^( {4}| {8})(?!\\s)[\\w\\[\\] ]+\\(([^)]*)\\).*\\{$");
        int begin = -1;
        String end = "";
        for (int k = 0; k < lines.length; k++) {
            Matcher m = head.matcher(lines[k]);
            if (begin < 0 && m.find() && !lines[k].contains(" class ") && !lines[k].trim().matches("(if|for|while).*")) {
                begin = k;
                end = m.group(1) + "}";
                need(m.group(2).split(",").length <= 7, "too many parameters: " + lines[k]);
            }
            if (begin >= 0 && lines[k].equals(end)) {
                need(k - begin <= 60, "a long method: " + lines[begin]);
                begin = -1;
            }
        }
    }
}
