/** Promises 8 and 9: letters behind the tape, the tape as a road. */
public final class TextTest {
    private static final Due due = new Due("TextTest");

    public static void main(String[] args) {
        type();
        roads();
        blanks();
        faults();
        whatStays();
        due.end();
    }

    private static void type() {
        BorderForge x = new BorderForge();
        due.all("8 wrong", BorderForge.BAD, x.type(31), x.type(127), x.type(-1), x.type(Integer.MAX_VALUE), x.type(9));
        due.is("8 the least", x.type(32), 1);
        due.is("8 the most", x.type(126), 2);
        for (int k = 3; k <= 90; k++) {
            due.is("8 letter " + k, x.type(' '), k);
        }
        due.is("8 full", x.type(' '), BorderForge.FULL);
        due.is("8 wrong ahead of full", x.type(31), BorderForge.BAD);
        due.is("8 the tape is whole", x.road(), -21);
        due.is("8 empty then", x.type('1'), 1);

        BorderForge y = new BorderForge();
        Due.type(y, " ".repeat(90));
        due.is("8 blanks alone: the end", y.road(), -110);
    }

    private static void roads() {
        BorderForge x = new BorderForge();
        due.is("9 the least", Due.road(x, "100;p0/0"), 1);
        due.is("9 the most", Due.road(x, "994,994,994,994,994,994,994,994;p999/99:01234567,s999/99:7,o000/00,b1/2,r1/1"), -91);
        due.is("9 five riders: all stays", x.count(0), 1);
        due.is("9 the most", Due.road(x, "994,894,794,694,594,494,394,294;p999/99:01234567,s007/099:7,o000/00,r1/2:035"), 4);
        due.is("9 stages", x.count(0), 8);
        for (int s = 0; s < 8; s++) {
            due.is("9 miles", x.of(s, 0), 9 - s);
            due.is("9 toll", x.of(s, 1), 9);
            due.is("9 horses", x.of(s, 2), 4);
        }
        int[][] riders = {{0, 0, 999, 99, 255}, {1, 0, 7, 99, 128}, {2, 0, 0, 0, 0}, {4, 0, 1, 2, 41}};
        for (int r = 0; r < 4; r++) {
            for (int what = 0; what < 5; what++) {
                due.is("9 rider " + r + ", " + what, x.at(r, what), riders[r][what]);
            }
        }
        String kinds = "psobr";
        for (int k = 0; k < 5; k++) {
            due.is("9 kind", Due.road(x, "314;" + kinds.charAt(k) + "1/2"), 1);
            due.is("9 kind " + k, x.at(0, 0), k);
        }
        due.is("9 fewer riders", x.count(1), 1);
        // what was on the tape once is no part of a number behind its end
        Due.road(x, "999999999999999999999999999999");
        due.is("9 a short one behind a long one", Due.road(x, "314;p1/2"), 1);
        due.is("9 its coins", x.at(0, 3), 2);
        due.is("9 of 90 letters", Due.road(x, " ".repeat(82) + "314;p1/9"), 1);
        due.is("9 of 90 letters: coins", x.at(0, 3), 9);
        due.is("9 fewer stages", x.count(0), 1);
    }

    private static void blanks() {
        BorderForge x = new BorderForge();
        due.is("9 blanks", Due.road(x, "  3 1 4 , 2 0 1 ; s 12 / 9 : 0 1 , p 1/1  "), 2);
        due.is("9 blanks: start", x.at(0, 2), 12);
        due.is("9 blanks: coins", x.at(0, 3), 9);
        due.is("9 blanks: buys", x.at(0, 4), 3);
        due.is("9 blanks: second", x.at(1, 2), 1);
        fault("314;p1 2/9", 7);
        fault("314;p1/9 9", 9);
        fault("314;p1/   100", 10);
        fault("314;p1   x", 9);
        fault("314;p1   ", 9);
        fault("   x", 3);
    }

    private static void faults() {
        fault("", 0);
        fault("014", 0);
        fault("a14", 0);
        fault(":14", 0);
        fault("/14", 0);
        fault("3:4", 1);
        fault("3/4", 1);
        fault("31/", 2);
        fault("314;p:", 5);
        fault("314;p/1", 5);
        fault("3", 1);
        fault("3,", 1);
        fault("31", 2);
        fault("315", 2);
        fault("314", 3);
        fault("3142", 3);
        fault("314:p", 3);
        fault("314,", 4);
        fault("314,;", 4);
        fault("314;", 4);
        fault("314;;", 4);
        fault("314;P", 4);
        fault("314;1", 4);
        fault("314;p", 5);
        fault("314;p/", 5);
        fault("314;p-1", 5);
        fault("314;p1000", 8);
        fault("314;p0000", 8);
        fault("314;p999:", 8);
        fault("314;p9/", 7);
        fault("314;p9/x", 7);
        fault("314;p9/100", 7);
        fault("314;p9/999", 7);
        fault("314;p9/1000", 7);
        fault("314;p9/0000", 10);
        fault("314;p9/0;", 8);
        fault("314;p9/0:", 9);
        fault("314;p9/0:1", 9);
        fault("314;p9/0:,", 9);
        fault("314;p9/0:00", 10);
        fault("314,201;p9/0:10", 14);
        fault("314,201;p9/0:11", 14);
        fault("314,201;p9/0:02", 14);
        fault("314,201;p9/0:0:", 14);
        fault("314;p9/0:0,", 11);
        fault("314;p9/0,", 9);
        fault("314;p9/0,,", 9);
        fault("314;p9/0 p", 9);
        fault("100,100,100,100,100,100,100,100,100;p0/0", 31);
        fault("100,100,100,100,100,100,100,100 ,", 32);
        fault("100;p0/0,p0/0,p0/0,p0/0,p0/0", 23);
        fault("100;p0/0,p0/0,p0/0,p0/0 ,", 24);
    }

    private static void fault(String text, int place) {
        BorderForge x = Due.on("521,302;p3/14:01,s4/9");
        x.price(2);
        x.seed(77);
        x.ride(1);
        due.is("9 fault in <" + text + ">", Due.road(x, text), -20 - place);
        due.is("9 all else stays: stages", x.count(0), 2);
        due.is("9 all else stays: riders", x.count(1), 2);
        due.is("9 all else stays: coins", x.count(5), 19);
        due.is("9 all else stays: buys", x.at(0, 4), 3);
        due.is("9 all else stays: undone", x.undo(), 0);
        due.is("9 the tape is empty", x.type('3'), 1);
    }

    private static void whatStays() {
        BorderForge x = Due.on("521,302;p3/14:01,s4/9");
        x.price(2);
        x.seed(77);
        x.ride(2);
        due.is("9 a road in its place", Due.road(x, "900,100,200;b9/1,r8/2"), 2);
        due.is("9 all are at the start", x.at(0, 1) + x.at(1, 1), 0);
        due.is("9 their minutes", x.at(1, 2), 8);
        due.is("9 they buy nowhere", x.at(0, 4), 0);
        due.is("9 nothing to be undone", x.undo(), BorderForge.NONE);
        due.is("9 price stays", x.count(2), 2);
        due.is("9 the draw stays", x.seed(1), 77);
    }
}
