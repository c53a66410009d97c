import java.lang.reflect.Method;
import java.util.ArrayList;
import java.util.HashMap;
import java.util.List;
import java.util.Map;
import java.util.Random;

/** All promises: random runs of calls, each answer held against the model's. */
public final class ModelTest {
    private static final int RUNS = 1500;
    private static final int CALLS = 400;

    /** A call, how often it comes, and what its arguments go from and to (S: stages, L: as its sheet). */
    private static final String[] CALLS_BY_WEIGHT = {
        "stage 3 1:9 0:9 0:4", "rider 4 0:4 0:60 0:99", "of 8 0:7 0:2", "at 24 0:3 0:6", "buys 8 0:3 S",
        "price 4 1:9", "type 2 32:126", "road 1", "count 12 0:7", "ride 14 1:3", "ride 2 1:32", "wheel 8 0:3",
        "give 6 0:3 0:3 1:30", "drift 8 1:3", "drift 1 1:32", "undo 14", "seed 4 0:2147483647", "ahead 6 0:3 0:1",
        "comes 6 0:3 0:8", "first 4", "caught 8 0:3 0:3", "best 6 0:3 0:1", "earlier 6 0:3 0:3",
        "purse 6 0:3 60:600", "loosened 6 0:3 0:1", "duel 4 0:3 0:3 0:1", "luck 6 0:3 0:10 0:1", "image 3",
        "restore 3", "passed 14 0:3 0:3 L 0:3 1:4", "film 12 0:3 1:4 0:3 L 0:3", "sheet 6 0:3 L 0:24", "drop 1 0:3",
        "item 4 0:3 L 0:12 0:400", "copy 6 0:3 0:4 0:3 0:4 0:4",
    };

    private static final Due due = new Due("ModelTest");
    private static final Map<String, Method> ours = methodsOf(BorderForge.class);
    private static final Map<String, Method> models = methodsOf(Model.class);
    private static final List<String[]> bag = new ArrayList<>();

    private final Random random;
    private final BorderForge x = new BorderForge();
    private final Model model = new Model();
    private final StringBuilder told = new StringBuilder();
    private boolean wrong = false;

    private ModelTest(long seed) {
        random = new Random(seed);
    }

    public static void main(String[] args) throws Exception {
        for (String line : CALLS_BY_WEIGHT) {
            String[] words = line.split(" ");
            for (int k = 0; k < Integer.parseInt(words[1]); k++) {
                bag.add(words);
            }
        }
        for (int run = 0; run < RUNS; run++) {
            new ModelTest(run).play(run);
        }
        due.end();
    }

    private static Map<String, Method> methodsOf(Class<?> type) {
        Map<String, Method> all = new HashMap<>();
        for (Method method : type.getDeclaredMethods()) {
            boolean face = method.getReturnType() == int.class && !java.lang.reflect.Modifier.isPrivate(method.getModifiers());
            if (face && !java.lang.reflect.Modifier.isStatic(method.getModifiers())) {
                all.put(method.getName(), method);
            }
        }
        return all;
    }

    private void play(int run) throws Exception {
        int calls = 0;
        if (run % 8 != 0) {
            calls += typeRoad(0);
        }
        while (calls < CALLS && !wrong) {
            if (random.nextInt(60) == 0) {
                calls += typeRoad(random.nextInt(3));
                continue;
            }
            String[] words = bag.get(random.nextInt(bag.size()));
            call(words[0], argumentsOf(words));
            calls++;
        }
    }

    private void call(String name, Object... arguments) throws Exception {
        Method method = ours.get(name);
        int got = (Integer) method.invoke(x, arguments);
        int want = (Integer) models.get(name).invoke(model, arguments);
        told.append(name).append(java.util.Arrays.toString(arguments)).append(" = ").append(got).append('\n');
        due.is(name + java.util.Arrays.toString(arguments), got, want);
        if (got != want) {
            wrong = true;
            System.out.println(told);
        }
    }

    private Object[] argumentsOf(String[] words) {
        Class<?>[] types = ours.get(words[0]).getParameterTypes();
        Object[] arguments = new Object[types.length];
        int sheet = 0;
        for (int k = 0; k < types.length; k++) {
            String range = words[k + 2];
            int least = 0;
            int most = 3;
            if (range.equals("S")) {
                most = (1 << model.count(0)) - 1;
            } else if (range.equals("L")) {
                least = sheet == 0 ? 2 : sheet;
                most = least;
            } else {
                least = Integer.parseInt(range.split(":")[0]);
                most = Integer.parseInt(range.split(":")[1]);
            }
            int v = pick(least, most);
            // the sheet is the argument ahead of the lane
            sheet = v;
            arguments[k] = types[k] == long.class ? (Object) wide(v) : (Object) v;
        }
        return arguments;
    }

    private long wide(int v) {
        return random.nextInt(4) == 0 ? random.nextLong() : v;
    }

    private int pick(int least, int most) {
        switch (random.nextInt(120)) {
            case 0:
                return least - 1;
            case 1:
                return most + 1;
            case 2:
                return random.nextInt();
            case 3:
                return Integer.MAX_VALUE;
            case 4:
                return Integer.MIN_VALUE;
            default:
                return (int) (least + (long) (random.nextDouble() * ((long) most - least + 1)));
        }
    }

    /** A road of the text's form, with some letters changed. */
    private int typeRoad(int changes) throws Exception {
        StringBuilder text = new StringBuilder();
        int stages = 1 + random.nextInt(8);
        for (int s = 0; s < stages; s++) {
            text.append(s == 0 ? "" : ",").append(1 + random.nextInt(9));
            text.append(random.nextInt(3) == 0 ? random.nextInt(10) : random.nextInt(3)).append(random.nextInt(5) / 2);
        }
        int riders = 1 + random.nextInt(4);
        for (int r = 0; r < riders; r++) {
            text.append(r == 0 ? ';' : ',').append("psobr".charAt(random.nextInt(5)));
            text.append(random.nextInt(60)).append('/').append(random.nextInt(40));
            StringBuilder digits = new StringBuilder();
            for (int s = 0; s < stages && digits.length() < 4; s++) {
                digits.append(random.nextInt(2) == 0 ? "" : String.valueOf(s));
            }
            text.append(digits.length() == 0 ? "" : ":").append(digits);
        }
        for (int k = 0; k < changes; k++) {
            int place = random.nextInt(text.length() + 1);
            String letters = " 0123456789,;:/psobrx";
            int kind = random.nextInt(3);
            if (kind > 0 && place < text.length()) {
                text.deleteCharAt(place);
            }
            if (kind < 2) {
                text.insert(place, random.nextInt(2) == 0 ? ' ' : letters.charAt(random.nextInt(letters.length())));
            }
        }
        for (int k = 0; k < text.length(); k++) {
            call("type", (int) text.charAt(k));
        }
        call("road");
        return text.length() + 1;
    }
}
