import java.lang.reflect.Method;
import java.lang.reflect.Modifier;
import java.net.URL;
import java.net.URLClassLoader;
import java.nio.file.Files;
import java.nio.file.Path;
import java.util.ArrayList;
import java.util.List;
import java.util.Map;
import java.util.TreeMap;
import java.util.regex.Matcher;
import java.util.regex.Pattern;
import javax.tools.ToolProvider;

/** What README.md says of the class: its example is compiled and run, its table of calls held against the face. */
public final class ReadmeTests {
    private static final Trial trial = new Trial();
    private static final Pattern BLOCK = Pattern.compile("(?s)```java\n(.*?)```");
    private static final Pattern CALL = Pattern.compile(
            "(book\\.\\w+\\([^;]*\\)); +// (-?\\d+|true|false|throws \\w+): .*");
    private static final Pattern ROW = Pattern.compile("(?m)^\\| `(\\w+)\\(([^)]*)\\)` \\|([^|]*)\\|([^|]*)\\|$");
    private static final Pattern EXCEPTION = Pattern.compile("\\w+Exception");

    public static void main(String[] args) throws Exception {
        String page = Files.readString(Path.of("README.md"));
        table(page);
        example(page);
        trial.finish();
    }

    private static void table(String page) {
        Map<String, String> told = new TreeMap<>();
        Matcher row = ROW.matcher(page);
        while (row.find()) {
            int parameters = row.group(2).isEmpty() ? 0 : row.group(2).split(", ").length;
            trial.due(row.group(1) + " has an answer", row.group(3).isBlank() ? 0 : 1, 1);
            List<String> thrown = new ArrayList<>();
            Matcher exception = EXCEPTION.matcher(row.group(4));
            while (exception.find()) {
                thrown.add(exception.group());
            }
            told.put(row.group(1), parameters + " " + thrown);
        }
        Map<String, String> face = new TreeMap<>();
        for (Method method : TestimonyBook.class.getDeclaredMethods()) {
            if (Modifier.isPublic(method.getModifiers())) {
                List<String> thrown = new ArrayList<>();
                for (Class<?> one : method.getExceptionTypes()) {
                    thrown.add(one.getSimpleName());
                }
                face.put(method.getName(), method.getParameterCount() + " " + thrown);
            }
        }
        trial.due("the table of calls", told.toString(), face.toString());
    }

    /** Each call of the example stands alone on its line, with what it answers or throws behind it. */
    private static void example(String page) throws Exception {
        StringBuilder source = new StringBuilder("import java.nio.ByteBuffer;\n"
                + "import java.nio.charset.StandardCharsets;\nimport java.util.Arrays;\n"
                + "public final class ReadmeExample {\n");
        List<String> calls = new ArrayList<>();
        List<String> answers = new ArrayList<>();
        Matcher block = BLOCK.matcher(page);
        while (block.find()) {
            if (block.group(1).startsWith("static ")) {
                source.append(block.group(1));
                continue;
            }
            source.append("public static void run(java.util.List<String> got) {\n");
            for (String line : block.group(1).split("\n")) {
                Matcher call = CALL.matcher(line);
                if (call.matches()) {
                    calls.add(call.group(1));
                    answers.add(call.group(2));
                    line = "try { got.add(String.valueOf(" + call.group(1) + ")); } "
                            + "catch (RuntimeException e) { got.add(\"throws \" + e.getClass().getSimpleName()); }";
                }
                trial.due("an answer stands behind " + line, line.startsWith("book.") ? 1 : 0, 0);
                source.append(line).append('\n');
            }
            source.append("}\n");
        }
        List<String> got = run(source.append("}\n").toString());
        trial.due("the example's calls", got.size(), calls.size());
        for (int i = 0; i < Math.min(got.size(), calls.size()); i++) {
            trial.due("README: " + calls.get(i), got.get(i), answers.get(i));
        }
    }

    private static List<String> run(String source) throws Exception {
        Path work = Files.createTempDirectory("readme");
        Path file = Files.writeString(work.resolve("ReadmeExample.java"), source);
        int code = ToolProvider.getSystemJavaCompiler().run(null, null, null, "-proc:none", "-cp",
                System.getProperty("java.class.path"), "-d", work.toString(), file.toString());
        trial.due("the example compiles", code, 0);
        List<String> got = new ArrayList<>();
        if (code == 0) {
            URL[] here = {work.toUri().toURL()};
            try (URLClassLoader loader = new URLClassLoader(here)) {
                loader.loadClass("ReadmeExample").getMethod("run", List.class).invoke(null, got);
            }
        }
        Files.deleteIfExists(work.resolve("ReadmeExample.class"));
        Files.delete(file);
        Files.delete(work);
        return got;
    }
}
