import java.lang.reflect.Method;
import java.lang.reflect.Modifier;
import java.nio.file.DirectoryStream;
import java.nio.file.Files;
import java.nio.file.Path;
import java.util.HashMap;
import java.util.HashSet;
import java.util.List;
import java.util.Map;
import java.util.Set;
import java.util.regex.Matcher;
import java.util.regex.Pattern;

/** README.md: its examples answer what stands behind them; it names each call, promise and test there is. */
public final class ReadmeTest {
    private static final Path PAGE = Path.of("README.md");
    private static final Path DOCUMENT = Path.of("../shared/DOC.md");
    private static final Path TESTS = Path.of("src/test/java");

    private static final Pattern CALL = Pattern.compile("^x\\.(\\w+)\\(([-\\d, ]*)\\); +// (-?\\d+)\\b.*$");
    private static final Pattern TEXT = Pattern.compile("^for \\(char letter : \"([^\"]*)\"\\.toCharArray\\(\\)\\) \\{$");
    private static final Pattern PROMISE = Pattern.compile("^\\| (\\d+) \\| `(?:new )?(\\w+)\\(([^)]*)\\)` \\| \\S.* \\|$");
    private static final Pattern HEADING = Pattern.compile("^## Promise (\\d+): (.*)$");
    private static final Pattern SIGNATURE = Pattern.compile("^`(?:int )?(\\w+)\\(([^)]*)\\)`:.*$");

    private static final Due due = new Due("ReadmeTest");
    private static final Map<String, Method> calls = new HashMap<>();
    private static final Set<String> used = new HashSet<>();

    public static void main(String[] args) throws Exception {
        for (Method method : BorderForge.class.getDeclaredMethods()) {
            if (Modifier.isPublic(method.getModifiers())) {
                calls.put(method.getName(), method);
            }
        }
        List<String> page = Files.readAllLines(PAGE);
        examples(page);
        due.is("calls that no example uses " + unused(), unused().size(), 0);
        promises(page);
        tests(page);
        due.end();
    }

    private static void examples(List<String> page) throws Exception {
        BorderForge x = null;
        boolean java = false;
        for (String line : page) {
            if (line.startsWith("```")) {
                java = line.equals("```java");
            } else if (java) {
                x = example(x, line);
            }
        }
    }

    private static BorderForge example(BorderForge x, String line) throws Exception {
        Matcher call = CALL.matcher(line);
        Matcher text = TEXT.matcher(line);
        if (line.equals("BorderForge x = new BorderForge();")) {
            return new BorderForge();
        }
        if (text.matches()) {
            Due.type(x, text.group(1));
            used.add("type");
        } else if (call.matches() && calls.containsKey(call.group(1))) {
            due.is(line, answer(x, calls.get(call.group(1)), call.group(2)), Integer.parseInt(call.group(3)));
            used.add(call.group(1));
        } else {
            boolean frame = line.isEmpty() || line.equals("    x.type(letter);") || line.equals("}");
            due.is("a line that tells no answer: " + line, frame ? 1 : 0, 1);
        }
        return x;
    }

    private static int answer(BorderForge x, Method method, String told) throws Exception {
        String[] words = told.isEmpty() ? new String[0] : told.split(", *");
        Object[] arguments = new Object[words.length];
        for (int k = 0; k < words.length; k++) {
            boolean wide = method.getParameterTypes()[k] == long.class;
            arguments[k] = wide ? (Object) Long.parseLong(words[k]) : (Object) Integer.parseInt(words[k]);
        }
        return (Integer) method.invoke(x, arguments);
    }

    private static Set<String> unused() {
        Set<String> rest = new HashSet<>(calls.keySet());
        rest.removeAll(used);
        return rest;
    }

    /** The page's table has the document's promises, by number, name and what they take. */
    private static void promises(List<String> page) throws Exception {
        Map<Integer, String> told = new HashMap<>();
        for (String line : page) {
            Matcher m = PROMISE.matcher(line);
            if (m.matches()) {
                told.put(Integer.parseInt(m.group(1)), m.group(2) + "(" + m.group(3) + ")");
            }
        }
        Map<Integer, String> promised = new HashMap<>();
        int number = 0;
        for (String line : Files.readAllLines(DOCUMENT)) {
            Matcher heading = HEADING.matcher(line);
            Matcher signature = SIGNATURE.matcher(line);
            if (heading.matches()) {
                number = Integer.parseInt(heading.group(1));
            } else if (number > 0 && signature.matches()) {
                promised.put(number, signature.group(1) + "(" + signature.group(2).replaceAll("\\b(int|long) ", "") + ")");
            }
        }
        due.is("promises in the document", promised.size(), 34);
        due.is("promises on the page", told.size(), 34);
        for (int k = 1; k <= 34; k++) {
            due.is("promise " + k + ": " + promised.get(k), promised.get(k) != null && promised.get(k).equals(told.get(k)) ? 1 : 0, 1);
        }
    }

    private static void tests(List<String> page) throws Exception {
        int there = 0;
        try (DirectoryStream<Path> files = Files.newDirectoryStream(TESTS, "*Test.java")) {
            for (Path file : files) {
                String name = file.getFileName().toString().replace(".java", "");
                due.is("tells of " + name, (int) page.stream().filter(line -> line.startsWith("| `" + name + "` |")).count(), 1);
                there++;
            }
        }
        due.is("tests told of", (int) page.stream().filter(line -> line.matches("\\| `\\w+Test` \\|.*")).count(), there);
    }
}
