/** An object is used for 512 calls: the last is answered as well as the first. */
public final class LongTest {
    private static final int CALLS = 512;

    private static final Due due = new Due("LongTest");

    public static void main(String[] args) {
        wheels();
        drifts();
        roads();
        images();
        sheets();
        refused();
        due.end();
    }

    /** MINUTES know no bound but that of the calls. */
    private static void wheels() {
        BorderForge x = new BorderForge();
        due.is("stage", x.stage(9, 9, 4), 0);
        due.is("rider", x.rider(2, 999, 0), 0);
        int minute = 999;
        for (int k = 3; k <= CALLS - 6; k++) {
            minute += 30;
            due.is("wheel, call " + k, x.wheel(0), minute);
        }
        due.is("at", x.at(0, 2), 999 + 30 * 504);
        // no coins for the toll: 10 minutes, then 9 miles of an old one
        due.is("ahead", x.ahead(0, 0), minute + 10 + 135);
        due.is("loosened", x.loosened(0, 1), minute + 10 + 135 + 30);
        due.is("purse: no coins would do", x.purse(0, 9999), BorderForge.NONE);
        due.is("undo", x.undo(), 7);
        due.is("at", x.at(0, 2), minute - 30);
    }

    /** Each DRIFT of one STAGE is undone, so that the next one draws the same. */
    private static void drifts() {
        BorderForge x = new BorderForge();
        x.stage(5, 0, 0);
        x.rider(0, 0, 0);
        x.seed(13); // the draw by 65536, left over by 6, is 0 then
        for (int k = 4; k < CALLS; k += 2) {
            due.is("drift, call " + k, x.drift(1), 1);
            due.is("undo, call " + (k + 1), x.undo(), 0);
        }
        due.is("call 512", x.drift(32), 1);
    }

    private static void roads() {
        BorderForge x = new BorderForge();
        String text = "110;p0/0";
        int calls = 0;
        while (calls + text.length() + 1 <= CALLS) {
            due.is("typed", Due.type(x, text), text.length());
            due.is("road, call " + (calls + text.length() + 1), x.road(), 1);
            calls += text.length() + 1;
        }
        due.is("rest", CALLS - calls < 9 ? 1 : 0, 1);
    }

    private static void images() {
        BorderForge x = Due.on("110,110;p0/0,s0/9");
        for (int k = 0; k < 120; k++) {
            due.is("image", x.image(), 1);
            due.is("ride", x.ride(3), 3);
            due.is("restore", x.restore(), 1);
            due.is("nothing undone", x.undo(), BorderForge.NONE);
        }
    }

    private static void sheets() {
        BorderForge x = Due.on("110,110;p0/0");
        for (int k = 0; k < 98; k++) {
            int lane = k % 4;
            due.is("sheet", x.sheet(k % 3, lane, 24), 24);
            due.is("film", x.film(0, 2, k % 3, lane, 22), 2);
            due.is("passed", x.passed(0, k % 3, lane, 22, 2), 1);
            due.is("copy", x.copy(k % 3, 0, k % 3, 0, 24), 24);
            due.is("drop", x.drop(k % 3), 24);
        }
    }

    /** What is refused some 500 times still changes nothing. */
    private static void refused() {
        BorderForge x = Due.on("110;p0/5");
        for (int k = 0; k < CALLS - 12; k++) {
            due.is("BAD", x.rider(5, 0, 0), BorderForge.BAD);
        }
        due.is("one rider", x.count(1), 1);
        due.is("its coins", x.count(5), 5);
        due.is("another one", x.rider(4, 0, 0), 1);
    }
}
