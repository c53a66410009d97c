import java.lang.management.ManagementFactory;
import java.lang.reflect.InvocationTargetException;
import java.lang.reflect.Method;
import java.lang.reflect.Modifier;
import java.util.Arrays;
import java.util.Random;

/** No call throws, whatever it is given in whatever state; no call makes objects. */
public final class WildTest {
    private static final int[] WILD = {
        Integer.MIN_VALUE, Integer.MIN_VALUE + 1, -256, -33, -9, -2, -1, 0, 1, 2, 3, 4, 5, 7, 8, 9, 10, 24, 25, 31, 32, 33, 99,
        100, 126, 127, 255, 256, 300, 999, 1000, 9999, 10000, Integer.MAX_VALUE - 1, Integer.MAX_VALUE,
    };
    private static final String FULL_ROAD = "914,924,934,904,914,924,934,904;p0/99:01234567,s1/99:0246,o2/99:1357,b3/99:07";

    private static final Due due = new Due("WildTest");

    public static void main(String[] args) throws Exception {
        nothingIsThrown();
        nothingIsMade();
        due.end();
    }

    private static void nothingIsThrown() throws Exception {
        Random random = new Random(7);
        Method[] all = BorderForge.class.getDeclaredMethods();
        Arrays.sort(all, (a, b) -> a.getName().compareTo(b.getName()));
        for (int run = 0; run < 600; run++) {
            BorderForge x = run % 3 == 0 ? new BorderForge() : Due.on(FULL_ROAD);
            for (int k = 0; k < 420; k++) {
                Method method = all[random.nextInt(all.length)];
                if (!Modifier.isPublic(method.getModifiers())) {
                    continue;
                }
                Object[] arguments = new Object[method.getParameterCount()];
                for (int a = 0; a < arguments.length; a++) {
                    int v = WILD[random.nextInt(WILD.length)];
                    arguments[a] = method.getParameterTypes()[a] == long.class ? (Object) random.nextLong() : (Object) v;
                }
                boolean threw = false;
                try {
                    method.invoke(x, arguments);
                } catch (InvocationTargetException e) {
                    threw = true;
                }
                due.is("threw: " + method.getName() + Arrays.toString(arguments), threw ? 1 : 0, 0);
            }
        }
    }

    /** All calls of a run live in one room, so what is made counts for good. */
    private static void nothingIsMade() {
        com.sun.management.ThreadMXBean threads = (com.sun.management.ThreadMXBean) ManagementFactory.getThreadMXBean();
        BorderForge x = Due.on(FULL_ROAD);
        everyCall(x);
        long id = Thread.currentThread().getId();
        long before = threads.getThreadAllocatedBytes(id);
        for (int k = 0; k < 50; k++) {
            everyCall(x);
        }
        long made = threads.getThreadAllocatedBytes(id) - before;
        due.is("bytes made by calls, but for the measuring itself: " + made, made < 4096 ? 1 : 0, 1);
        before = threads.getThreadAllocatedBytes(id);
        new BorderForge();
        made = threads.getThreadAllocatedBytes(id) - before;
        due.is("bytes of a new object: " + made, made < 16384 ? 1 : 0, 1);
    }

    private static void everyCall(BorderForge x) {
        Due.type(x, FULL_ROAD);
        x.road();
        x.stage(1, 1, 1);
        x.rider(1, 1, 1);
        x.sheet(0, 2, 24);
        x.sheet(1, 2, 24);
        x.film(3, 8, 0, 2, 0);
        x.passed(3, 0, 2, 0, 8);
        x.item(0, 2, 3, 9);
        x.copy(0, 0, 1, 4, 8);
        x.drop(1);
        x.image();
        x.ride(2);
        x.drift(2);
        x.wheel(0);
        x.give(0, 1, 2);
        x.undo();
        x.restore();
        x.first();
        x.seed(4);
        x.price(2);
        x.buys(0, 9);
        for (int r = 0; r < 4; r++) {
            x.ahead(r, 0);
            x.comes(r, 8);
            x.caught(r, (r + 1) % 4);
            x.best(r, 0);
            x.earlier(r, (r + 1) % 4);
            x.purse(r, 100);
            x.loosened(r, 1);
            x.duel(r, (r + 1) % 4, 1);
            x.luck(r, 5, 0);
            x.at(r, 5);
            x.count(r);
            x.of(r, 1);
        }
    }
}
