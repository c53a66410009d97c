import java.lang.reflect.Constructor;
import java.lang.reflect.Field;
import java.lang.reflect.Method;
import java.lang.reflect.Modifier;
import java.nio.file.Files;
import java.nio.file.Path;
import java.util.Arrays;
import java.util.HashSet;
import java.util.Set;
import java.util.TreeSet;
import java.util.regex.Matcher;
import java.util.regex.Pattern;

/** The public face as the document writes it, and no more than that. */
public final class FaceTest {
    private static final String[] CONSTANTS = {
        "BAD -1", "NOT -2", "FULL -3", "NONE -4", "NULL -11", "CAST -12", "INDEX -13", "SIZE -14",
    };
    /** Each call with how many ints it takes; item takes a long behind them. */
    private static final String[] CALLS = {
        "stage 3", "rider 3", "of 2", "at 2", "buys 2", "price 1", "type 1", "road 0", "count 1", "ride 1", "wheel 1",
        "give 3", "drift 1", "undo 0", "seed 1", "ahead 2", "comes 2", "first 0", "caught 2", "best 2", "earlier 2",
        "purse 2", "loosened 2", "duel 3", "luck 3", "image 0", "restore 0", "passed 5", "film 5", "sheet 3", "drop 1",
        "item 3 long", "copy 5",
    };

    private static final Due due = new Due("FaceTest");

    public static void main(String[] args) throws Exception {
        int form = BorderForge.class.getModifiers();
        due.is("public and final", Modifier.isPublic(form) && Modifier.isFinal(form) ? 1 : 0, 1);
        due.is("no package", BorderForge.class.getPackageName().length(), 0);
        constants();
        calls();
        document();
        constructor();
        nested();
        due.end();
    }

    private static void constants() throws Exception {
        Set<String> seen = new TreeSet<>();
        for (Field field : BorderForge.class.getDeclaredFields()) {
            int form = field.getModifiers();
            if (Modifier.isPrivate(form)) {
                due.is("static fields are final: " + field, !Modifier.isStatic(form) || Modifier.isFinal(form) ? 1 : 0, 1);
                continue;
            }
            due.is("a constant: " + field, Modifier.isPublic(form) && Modifier.isStatic(form) && Modifier.isFinal(form) ? 1 : 0, 1);
            seen.add(field.getName() + " " + field.getInt(null));
        }
        due.is("the constants " + seen, seen.equals(new TreeSet<>(Arrays.asList(CONSTANTS))) ? 1 : 0, 1);
    }

    private static void calls() {
        Set<String> names = new HashSet<>();
        Set<String> due1 = new TreeSet<>(Arrays.asList(CALLS));
        Set<String> seen = new TreeSet<>();
        for (String call : CALLS) {
            names.add(call.split(" ")[0]);
        }
        for (Method method : BorderForge.class.getDeclaredMethods()) {
            if (Modifier.isPublic(method.getModifiers())) {
                seen.add(method.getName() + " " + told(method));
                due.is("answers an int: " + method, method.getReturnType() == int.class ? 1 : 0, 1);
                due.is("not static: " + method, Modifier.isStatic(method.getModifiers()) ? 1 : 0, 0);
            } else {
                due.is("private: " + method, Modifier.isPrivate(method.getModifiers()) ? 1 : 0, 1);
                due.is("of another name: " + method, names.contains(method.getName()) ? 1 : 0, 0);
            }
        }
        due.is("the calls " + seen, seen.equals(due1) ? 1 : 0, 1);
        for (Class<?> inner : BorderForge.class.getDeclaredClasses()) {
            for (Method method : inner.getDeclaredMethods()) {
                due.is("of another name: " + method, names.contains(method.getName()) ? 1 : 0, 0);
            }
        }
    }

    /** Each line of the document's own face: the names, and what each call takes, in its order. */
    private static void document() throws Exception {
        String text = Files.readString(Path.of("../shared/DOC.md"));
        Set<String> promised = new TreeSet<>();
        Matcher call = Pattern.compile("(?m)^    public int (\\w+)\\(([^)]*)\\);$").matcher(text);
        while (call.find()) {
            promised.add(call.group(1) + "(" + call.group(2).replaceAll("\\b(int|long) \\w+", "$1").replace(" ", "") + ")");
        }
        Set<String> seen = new TreeSet<>();
        for (Method method : BorderForge.class.getDeclaredMethods()) {
            if (Modifier.isPublic(method.getModifiers())) {
                String types = Arrays.toString(method.getParameterTypes()).replaceAll("[\\[\\] ]", "");
                seen.add(method.getName() + "(" + types + ")");
            }
        }
        due.is("calls in the document", promised.size(), 33);
        due.is("as the document writes them " + seen, seen.equals(promised) ? 1 : 0, 1);
        Matcher constant = Pattern.compile("\\b([A-Z]+) = (-\\d+)").matcher(text);
        int constants = 0;
        while (constant.find()) {
            int value = BorderForge.class.getField(constant.group(1)).getInt(null);
            due.is(constant.group(1), value, Integer.parseInt(constant.group(2)));
            constants++;
        }
        due.is("constants in the document", constants, CONSTANTS.length);
    }

    private static String told(Method method) {
        int ints = 0;
        String rest = "";
        for (Class<?> type : method.getParameterTypes()) {
            if (type == int.class) {
                ints++;
            } else {
                rest += " " + type.getName();
            }
        }
        return ints + rest;
    }

    private static void constructor() {
        Constructor<?>[] all = BorderForge.class.getDeclaredConstructors();
        due.is("one constructor", all.length, 1);
        due.is("public", Modifier.isPublic(all[0].getModifiers()) ? 1 : 0, 1);
        due.is("of nothing", all[0].getParameterCount(), 0);
    }

    private static void nested() {
        Class<?>[] all = BorderForge.class.getDeclaredClasses();
        due.is("some twelve classes at most", all.length <= 12 ? 1 : 0, 1);
        for (Class<?> inner : all) {
            int form = inner.getModifiers();
            due.is("static: " + inner, Modifier.isStatic(form) ? 1 : 0, 1);
            due.is("not open: " + inner, Modifier.isPublic(form) || Modifier.isProtected(form) ? 1 : 0, 0);
            int fields = 0;
            for (Field field : inner.getDeclaredFields()) {
                fields += Modifier.isStatic(field.getModifiers()) ? 0 : 1;
            }
            due.is("some twenty fields at most: " + inner, fields <= 20 ? 1 : 0, 1);
        }
    }
}
