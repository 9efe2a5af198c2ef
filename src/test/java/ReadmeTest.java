import java.lang.reflect.Method;
import java.net.URL;
import java.net.URLClassLoader;
import java.nio.file.Files;
import java.nio.file.Path;
import java.util.regex.Matcher;
import java.util.regex.Pattern;
import javax.tools.ToolProvider;

/** What README.md shows of the class: its example answers as it says, and it names each call. */
public final class ReadmeTest extends Check {
    private static final Pattern ANSWER = Pattern.compile("^(int|boolean) (\\w+) = .*;\\s+// (-?\\d+|true|false)\\b.*$");

    public static void main(String[] args) throws Exception {
        String text = Files.readString(Path.of("README.md"));
        int begin = text.indexOf("```java\n");
        int end = text.indexOf("```", begin + 3);
        due("there is an example", begin >= 0 && end > begin, true);
        if (begin >= 0 && end > begin) {
            run(text.substring(begin + 8, end));
        }
        for (Method m : MemoryHouse.class.getDeclaredMethods()) {
            if (java.lang.reflect.Modifier.isPublic(m.getModifiers())) {
                due(m.getName() + " is named", text.contains("`" + m.getName() + "`"), true);
            }
        }
        finish();
    }

    /** Called by the example that was compiled. */
    public static void answer(String name, Object got, String want) {
        due(name + " = " + want, got.toString().equals(want), true);
    }

    private static void run(String example) throws Exception {
        StringBuilder code = new StringBuilder("public final class Example { public static void run() {\n");
        int answers = 0;
        for (String line : example.split("\n")) {
            code.append(line).append('\n');
            Matcher m = ANSWER.matcher(line);
            if (m.matches()) {
                code.append("ReadmeTest.answer(\"").append(m.group(2)).append("\", ").append(m.group(2));
                code.append(", \"").append(m.group(3)).append("\");\n");
                answers++;
            }
        }
        due("each line but the first tells its answer", answers, example.split("\n").length - 1);
        Path out = Files.createTempDirectory("readme");
        Path file = out.resolve("Example.java");
        Files.writeString(file, code.append("} }\n"));
        String path = System.getProperty("java.class.path");
        int wrong = ToolProvider.getSystemJavaCompiler().run(null, null, null, "-cp", path, "-d", out.toString(),
                file.toString());
        due("the example is compiled", wrong, 0);
        if (wrong == 0) {
            try (URLClassLoader loader = new URLClassLoader(new URL[] {out.toUri().toURL()})) {
                loader.loadClass("Example").getMethod("run").invoke(null);
            }
        }
        for (String name : new String[] {"Example.java", "Example.class"}) {
            Files.deleteIfExists(out.resolve(name));
        }
        Files.deleteIfExists(out);
    }
}
