import java.nio.file.Files;
import java.nio.file.Path;
import java.util.List;
import java.util.regex.Matcher;
import java.util.regex.Pattern;

/** What can be seen from the text alone of the rules of LANGUAGE.md. */
public final class RulesTest {
    private static final Path SOURCE = Path.of("src/main/java/BorderForge.java");
    private static final String[] NOT_HERE = {
        "^import ", "^package ", "->", "::", "\\bcatch\\b", "\\bfinally\\b", "\\bsynchronized\\b", "\\bassert\\b",
        "\\bthrow\\b", "\\bdouble\\b", "\\bfloat\\b", "\\bvar\\b", "\\bstatic \\{", "\\bSystem\\.(?!arraycopy)",
        "\\bMath\\.(?!min|max)", "\\bprotected\\b", "\\bhashCode\\b", "\\btoString\\b", "\\bequals\\b",
    };

    private static final Due due = new Due("RulesTest");

    public static void main(String[] args) throws Exception {
        List<String> lines = Files.readAllLines(SOURCE);
        for (String wrong : NOT_HERE) {
            Pattern pattern = Pattern.compile(wrong);
            for (int k = 0; k < lines.size(); k++) {
                due.is("<" + wrong + "> in line " + (k + 1), pattern.matcher(lines.get(k)).find() ? 1 : 0, 0);
            }
        }
        methods(lines);
        due.end();
    }

    /** Methods stay short, and take seven at most; their ends are known by their indent. */
    private static void methods(List<String> lines) {
        Pattern head = Pattern.compile("^( {4}| {8})(?!private static final|return|else)[a-z][\\w\\[\\] ]* \\w+\\(([^)]*)\\) \\{$");
        for (int k = 0; k < lines.size(); k++) {
            Matcher m = head.matcher(lines.get(k));
            if (!m.find()) {
                continue;
            }
            int end = k;
            while (end < lines.size() && !lines.get(end).equals(m.group(1) + "}")) {
                end++;
            }
            due.is("sixty lines at most: " + lines.get(k), end - k <= 60 ? 1 : 0, 1);
            due.is("seven at most: " + lines.get(k), m.group(2).split(",").length <= 7 ? 1 : 0, 1);
        }
    }
}
