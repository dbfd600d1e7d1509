import java.io.IOException;
import java.nio.charset.StandardCharsets;
import java.nio.file.Files;
import java.nio.file.Path;
import java.util.List;
import java.util.Map;
import java.util.TreeMap;
import java.util.regex.Matcher;
import java.util.regex.Pattern;

/** The rules of LANGUAGE.md that can be seen in the text of the class, without its comments. */
final class SourceTest {
    private static final Check C = new Check("SourceTest");
    private static final String[] NEVER = {"->", "::", "try", "catch", "finally", "throw", "synchronized", "assert",
        "double", "float", "package", "protected", "volatile", "Thread", "Random", "nanoTime", "currentTimeMillis",
        "getenv", "getProperty", "Object", "HashMap", "Optional", "Exact", "hashCode", "static {", "while (true)",
        "for (;;)"};

    public static void main(String[] args) throws IOException {
        String text = Files.readString(Path.of("src/main/java/SongLamps.java"), StandardCharsets.ISO_8859_1);
        C.due("signs beyond 127", text.chars().filter(sign -> sign > 127).count(), 0);
        String code = text.replaceAll("(?s)/\\*.*?\\*/", "").replaceAll("//[^\n]*", "");
        for (String word : NEVER) {
            boolean letters = Character.isLetter(word.charAt(word.length() - 1));
            Pattern whole = Pattern.compile(letters ? "\\b" + word + "\\b" : Pattern.quote(word));
            C.due("'" + word + "' stands in the class", whole.matcher(code).find() ? 1 : 0, 0);
        }
        C.same("what is imported", found(code, "import [^;]*;"), "[import java.util.Arrays;]");
        C.same("of System", found(code, "System\\.\\w+").replaceAll("System.arraycopy(, )?", ""), "[]");
        C.same("of Arrays", found(code, "Arrays\\.\\w+\\(").replaceAll("Arrays.(fill|copyOf|copyOfRange)\\((, )?", ""),
                "[]");
        C.same("what is public and static", found(code, "public static \\w+ \\w+ \\w+"),
                "[public static final int NONE, public static final long LOST]");
        int classes = found(code, "\\bclass \\w+").split(",").length;
        C.due(classes + " classes are twelve at the most", classes <= 12 ? 1 : 0, 1);
        methods(code.split("\n"));
        made(code);
        C.end();
    }

    private static String found(String code, String pattern) {
        List<String> all = Pattern.compile(pattern).matcher(code).results().map(one -> one.group()).toList();
        return all.toString();
    }

    /** Rows are made with their object and used again, so that a call makes none. */
    private static void made(String code) {
        String begin = "public SongLamps() {";
        int from = code.indexOf(begin);
        int to = code.indexOf("\n    }\n", from);
        C.due("the constructor was found", from >= 0 && to > from ? 1 : 0, 1);
        String rest = code.substring(0, from) + code.substring(to);
        String calls = rest.replaceAll("(?m)^ +(?:private )?final [\\w\\[\\]]+ \\w+ = new [^;]*;$", "");
        C.due("'new' stands where no object is made", Pattern.compile("\\bnew\\b").matcher(calls).find() ? 1 : 0, 0);
    }

    private static void methods(String[] rows) {
        Pattern head = Pattern.compile("^( +)(?:\\w+ )*\\w+(?:\\[\\])? \\w+\\(([^)]*)\\) \\{$");
        int seen = 0;
        Map<String, String> bodies = new TreeMap<>();
        for (int i = 0; i < rows.length; i++) {
            Matcher m = head.matcher(rows[i]);
            if (m.matches() && !rows[i].contains(" else ")) {
                int end = i;
                while (end < rows.length && !rows[end].equals(m.group(1) + "}")) {
                    end++;
                }
                seen++;
                C.due("lines of " + rows[i].trim() + " are sixty at the most", end - i <= 60 ? 1 : 0, 1);
                C.due("parameters of " + rows[i].trim() + " are seven at the most",
                        m.group(2).split(",").length <= 7 ? 1 : 0, 1);
                String body = String.join("\n", List.of(rows).subList(i + 1, Math.min(end, rows.length)));
                bodies.merge(nameOf(rows[i]), body, String::concat);
            }
        }
        C.due("the methods were found", seen > 30 ? 1 : 0, 1);
        for (String name : bodies.keySet()) {
            C.due("calls from " + name + " go eight deep at the most, none to itself",
                    deep(name, bodies, 1) <= 8 ? 1 : 0, 1);
        }
    }

    private static String nameOf(String head) {
        String ahead = head.substring(0, head.indexOf('('));
        return ahead.substring(ahead.lastIndexOf(' ') + 1);
    }

    /** By names alone; the library's are not counted. What calls itself is never at its end, so it ends at nine. */
    private static int deep(String name, Map<String, String> bodies, int at) {
        int most = at;
        if (at <= 8) {
            Matcher m = Pattern.compile("\\b(\\w+)\\(").matcher(bodies.get(name));
            while (m.find()) {
                if (bodies.containsKey(m.group(1))) {
                    most = Math.max(most, deep(m.group(1), bodies, at + 1));
                }
            }
        }
        return most;
    }
}
