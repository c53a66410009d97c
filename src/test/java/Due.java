/** Counts answers against those that are due; prints each that is not, and ends the test by exit code. */
final class Due {
    private final String test;
    private int asDue = 0;
    private int wrong = 0;

    Due(String test) {
        this.test = test;
    }

    void is(String call, long got, long want) {
        if (got == want) {
            asDue++;
            return;
        }
        wrong++;
        System.out.println(test + ": " + call + " answered " + got + ", due is " + want);
    }

    /** The same call with each of several wrong arguments is told once, by which one it was. */
    void all(String call, long want, long... got) {
        for (int k = 0; k < got.length; k++) {
            is(call + " [" + k + "]", got[k], want);
        }
    }

    void end() {
        System.out.println(test + ": " + asDue + " as due, " + wrong + " wrong");
        if (wrong != 0 || asDue == 0) {
            System.exit(1);
        }
    }

    static int type(BorderForge x, String text) {
        int answer = 0;
        for (int k = 0; k < text.length(); k++) {
            answer = x.type(text.charAt(k));
        }
        return answer;
    }

    static int road(BorderForge x, String text) {
        type(x, text);
        return x.road();
    }

    static BorderForge on(String text) {
        BorderForge x = new BorderForge();
        if (road(x, text) < 1) {
            throw new IllegalArgumentException("no road: " + text);
        }
        return x;
    }
}
