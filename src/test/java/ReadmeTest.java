import java.io.IOException;
import java.lang.reflect.Method;
import java.lang.reflect.Modifier;
import java.net.URL;
import java.net.URLClassLoader;
import java.nio.file.Files;
import java.nio.file.Path;
import java.util.ArrayList;
import java.util.List;
import java.util.TreeSet;
import java.util.regex.Matcher;
import java.util.regex.Pattern;
import javax.tools.JavaCompiler;
import javax.tools.ToolProvider;

/** The examples of README.md are compiled as they stand, and answer what README.md says behind each call. */
final class ReadmeTest {
    private static final Check C = new Check("ReadmeTest");
    private static final Pattern BLOCK = Pattern.compile("```java\n(.*?)```", Pattern.DOTALL);
    private static final Pattern ROW = Pattern.compile("(x\\.(\\w+)\\(.*\\)); *// (-?\\d+|[A-Z]+(?: \\+ [A-Z]+)?): .+");
    private static final String NAME = "ReadmeExamples";

    public static void main(String[] args) throws Exception {
        String page = Files.readString(Path.of("README.md"));
        TreeSet<String> called = new TreeSet<>();
        List<String> blocks = new ArrayList<>();
        BLOCK.matcher(page).results().forEach(block -> blocks.add(body(block.group(1), called)));
        C.due("examples are found", blocks.isEmpty() ? 0 : 1, 1);
        TreeSet<String> face = new TreeSet<>();
        for (Method m : SongLamps.class.getDeclaredMethods()) {
            if (Modifier.isPublic(m.getModifiers())) {
                face.add(m.getName());
            }
        }
        C.same("the calls that have an example", called.toString(), face.toString());
        for (String refusal : new String[] {"NONE", "UNKNOWN", "OUTSIDE", "STATE", "FULL", "NO", "LOST + "}) {
            C.due(refusal + " has an example", page.contains("// " + refusal) ? 1 : 0, 1);
        }
        C.due("it says how all tests are run", page.contains("bash .ci/run") ? 1 : 0, 1);
        answers(source(blocks));
        C.end();
    }

    /** A block's lines, those with an answer behind them as rows that are kept. */
    private static String body(String block, TreeSet<String> called) {
        StringBuilder text = new StringBuilder();
        for (String line : block.split("\n")) {
            Matcher row = ROW.matcher(line);
            if (row.matches()) {
                called.add(row.group(2));
                String told = row.group(1).replace("\\", "\\\\").replace("\"", "\\\"");
                text.append("rows.add(new Object[] {\"").append(told).append("\", (long) ").append(row.group(1))
                        .append(", (long) (").append(row.group(3)).append(")});\n");
            } else {
                C.due("there is an answer that can be read in: " + line, line.contains("//") ? 0 : 1, 1);
                text.append(line).append("\n");
            }
        }
        return text.toString();
    }

    private static String source(List<String> blocks) {
        StringBuilder text = new StringBuilder("public final class " + NAME + " {\n");
        for (String name : new String[] {"NONE", "UNKNOWN", "OUTSIDE", "STATE", "FULL", "NO", "LOST"}) {
            text.append("static final long ").append(name).append(" = SongLamps.").append(name).append(";\n");
        }
        text.append("public static java.util.List<Object[]> rows() {\n");
        text.append("java.util.List<Object[]> rows = new java.util.ArrayList<>();\n");
        for (String block : blocks) {
            text.append("{\n").append(block).append("}\n");
        }
        return text.append("return rows;\n}\n}\n").toString();
    }

    private static void answers(String source) throws IOException, ReflectiveOperationException {
        Path folder = Files.createTempDirectory("readme");
        Path file = folder.resolve(NAME + ".java");
        Files.writeString(file, source);
        JavaCompiler javac = ToolProvider.getSystemJavaCompiler();
        int code = javac.run(null, null, null, "-cp", System.getProperty("java.class.path"), "-d", folder.toString(),
                file.toString());
        C.due("the examples compile", code, 0);
        if (code == 0) {
            try (URLClassLoader loader = new URLClassLoader(new URL[] {folder.toUri().toURL()})) {
                List<?> rows = (List<?>) loader.loadClass(NAME).getMethod("rows").invoke(null);
                for (Object row : rows) {
                    Object[] parts = (Object[]) row;
                    C.due((String) parts[0], (Long) parts[1], (Long) parts[2]);
                }
            }
        }
        try (var made = Files.list(folder)) {
            for (Path one : made.toList()) {
                Files.delete(one);
            }
        }
        Files.delete(folder);
    }
}
