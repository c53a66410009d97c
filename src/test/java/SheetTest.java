/** Promises 27 to 34: the image, rows of minutes, sheets. */
public final class SheetTest {
    private static final Due due = new Due("SheetTest");
    private static final String ROAD = "521,302,710,431,901;p0/14:024,o5/30:13,b10/9:0,r40/22";

    public static void main(String[] args) {
        image();
        restore();
        passed();
        passedOfLanes();
        film();
        filmMidway();
        sheet();
        drop();
        item();
        copy();
        due.end();
    }

    private static void image() {
        BorderForge x = Due.on("502,302;p0/9:0,s9/8");
        x.seed(5);
        x.ride(2);
        x.sheet(0, 1, 3);
        due.is("27 kept", x.image(), 1);
        x.ride(1);
        x.drift(1);
        x.price(8);
        x.buys(0, 0);
        x.stage(1, 0, 0);
        x.rider(0, 0, 0);
        x.sheet(0, 2, 5);
        x.type('9');
        due.is("28 restored", x.restore(), 1);
        int[] counts = {2, 2, 3, 0, 0, 14, 3, 2};
        for (int what = 0; what < counts.length; what++) {
            due.is("28 as it was " + what, x.count(what), counts[what]);
        }
        int[] one = {0, 1, 30, 6, 1, 18, 30};
        for (int what = 0; what < one.length; what++) {
            due.is("28 of one " + what, x.at(0, what), one[what]);
        }
        due.is("28 the draw", x.seed(5), 5);
        due.is("28 sheets stay as they are", x.drop(0), 5);
        due.is("28 the tape stays as it is", x.type('1'), 2);
        due.is("28 to be undone", x.undo(), 1);
        due.is("28 undone", x.at(1, 2), 9);
        due.is("28 to be undone", x.undo(), 0);
        due.is("28 undone", x.of(0, 2), 2);
        due.is("28 none is known", x.undo(), BorderForge.NONE);
    }

    private static void restore() {
        BorderForge x = new BorderForge();
        due.is("28 there is none", x.restore(), BorderForge.NONE);
        due.is("27 of nothing", x.image(), 1);
        Due.road(x, ROAD);
        x.ride(3);
        due.is("28 nothing again", x.restore(), 1);
        due.is("28 no stages", x.count(0), 0);
        due.is("28 no riders", x.count(1), 0);
        due.is("28 nothing to be undone", x.count(7), 0);
        Due.road(x, ROAD);
        x.ride(12);
        x.image();
        int[] minutes = new int[8];
        for (int k = 7; k >= 0; k--) {
            x.undo();
            minutes[k] = minutesOf(x);
        }
        for (int k = 0; k < 8; k++) {
            x.wheel(k % 4);
        }
        due.is("28 more than once", x.restore(), 1);
        due.is("28 what may be undone", x.count(7), 8);
        x.ride(1);
        due.is("28 and again", x.restore(), 1);
        int ridden = 0;
        for (int r = 0; r < 4; r++) {
            ridden += x.at(r, 1);
        }
        due.is("28 twelve are ridden", ridden, 12);
        for (int k = 7; k >= 0; k--) {
            due.is("28 undone to " + k, x.undo(), k);
            due.is("28 minutes then", minutesOf(x), minutes[k]);
        }
    }

    private static int minutesOf(BorderForge x) {
        int all = 0;
        for (int r = 0; r < 4; r++) {
            all = all * 31 + x.at(r, 2);
        }
        return all;
    }

    private static void passed() {
        BorderForge x = Due.on("500,200;p10/0,o0/0");
        x.sheet(2, 2, 4);
        put(x, 2, 2, 1, 60, 80);
        due.is("29 plain alone", x.passed(0, 2, 2, 1, 2), 1);
        due.is("29 of one item", x.passed(0, 2, 2, 1, 1), 1);
        put(x, 2, 2, 1, 65, 90);
        due.is("29 snowed", x.passed(0, 2, 2, 1, 2), 2);
        put(x, 2, 2, 1, 85, 115);
        due.is("29 old, and bride", x.passed(0, 2, 2, 1, 2), 12);
        put(x, 2, 2, 1, 55, 70);
        due.is("29 brother", x.passed(0, 2, 2, 1, 2), 16);
        put(x, 2, 2, 1, 55, 71);
        due.is("29 none", x.passed(0, 2, 2, 1, 2), 0);
        due.is("29 of its kind nothing changed", x.at(0, 0), 0);
        due.all("29 wrong", BorderForge.BAD,
                x.passed(2, 2, 2, 0, 1), x.passed(-1, 2, 2, 0, 1), x.passed(0, 4, 2, 0, 1), x.passed(0, -1, 2, 0, 1),
                x.passed(0, 2, 4, 0, 1), x.passed(0, 2, -1, 0, 1), x.passed(0, 2, 2, 0, 9), x.passed(0, 2, 2, 0, 0),
                x.passed(0, 2, 2, 0, -1), x.passed(2, 0, 1, -1, 9));
        due.is("29 nothing there", x.passed(0, 0, 2, -1, 8), BorderForge.NULL);
        due.is("29 another lane", x.passed(0, 2, 3, -1, 8), BorderForge.CAST);
        due.all("29 index", BorderForge.INDEX,
                x.passed(0, 2, 2, -1, 1), x.passed(0, 2, 2, 4, 1), x.passed(0, 2, 2, 3, 2), x.passed(0, 2, 2, 0, 5),
                x.passed(0, 2, 2, Integer.MAX_VALUE, 8), x.passed(0, 2, 2, Integer.MIN_VALUE, 1));
        due.is("29 not so many lie ahead", x.passed(0, 2, 2, 0, 3), BorderForge.NOT);
        // the old one rides to the first stage and on, then only the forge lies ahead of it
        x.ride(3);
        put(x, 2, 2, 0, 105);
        due.is("29 the forge alone", x.passed(1, 2, 2, 0, 1), 12);
        due.is("29 two do not lie ahead", x.passed(1, 2, 2, 0, 2), BorderForge.NOT);
        x.ride(32);
        due.is("29 at the forge", x.passed(1, 2, 2, 0, 1), BorderForge.NOT);

        // by its kind it is there sooner or later than who else would buy
        BorderForge y = Due.on("100,501;p0/9:1,p5/9:1");
        y.sheet(0, 3, 2);
        put(y, 0, 3, 0, 10, 40);
        due.is("29 on best horses", y.passed(0, 0, 3, 0, 2), 1);
        put(y, 0, 3, 0, 15, 50);
        due.is("29 snowed is there as soon, of the lesser number", y.passed(0, 0, 3, 0, 2), 2);
        put(y, 0, 3, 0, 15, 45);
        due.is("29 bride on best horses", y.passed(0, 0, 3, 0, 2), 8);
    }

    private static void put(BorderForge x, int sheet, int lane, int i, long... row) {
        for (int k = 0; k < row.length; k++) {
            due.is("33 item " + (i + k), x.item(sheet, lane, i + k, row[k]), 1);
        }
    }

    private static void passedOfLanes() {
        BorderForge x = Due.on("100;p990/0");
        for (int lane = 0; lane < 4; lane++) {
            x.sheet(0, lane, 1);
            due.is("30 film to lane " + lane, x.film(0, 1, 0, lane, 0), 1);
            due.is("29 of lane " + lane, x.passed(0, 0, lane, 0, 1), lane == 0 ? 0 : 1);
        }
        long[] wide = {1000 + (1L << 8), 1000 + (1L << 16), 1000 + (1L << 32), 1000 + (1L << 40)};
        int[] told = {0, 1, 1, 0};
        for (int lane = 0; lane < 4; lane++) {
            x.sheet(0, lane, 1);
            x.item(0, lane, 0, wide[lane]);
            due.is("33 lowest bits of lane " + lane, x.passed(0, 0, lane, 0, 1), told[lane]);
        }
        BorderForge y = Due.on("100;p90/0");
        y.sheet(0, 0, 1);
        y.item(0, 0, 0, 100 - 256);
        due.is("33 lowest 8 bits", y.passed(0, 0, 0, 0, 1), 1);
        y.item(0, 0, 0, 100 + (1L << 60));
        due.is("33 lowest 8 bits of many", y.passed(0, 0, 0, 0, 1), 1);
        BorderForge z = Due.on("100;p140/0");
        z.sheet(0, 0, 1);
        z.item(0, 0, 0, 150);
        due.is("33 a byte is below 128", z.passed(0, 0, 0, 0, 1), 0);
    }

    private static void film() {
        BorderForge x = Due.on("500,200,100;p10/0,s0/0");
        x.sheet(1, 3, 4);
        due.is("30 three", x.film(0, 3, 1, 3, 1), 3);
        due.is("30 as told", x.passed(0, 1, 3, 1, 3), 1);
        put(x, 1, 3, 0, 55, 80);
        due.is("30 brother would", x.passed(0, 1, 3, 0, 1), 16);
        due.is("30 one", x.film(0, 1, 1, 3, 3), 1);
        due.is("30 it is the first", x.passed(0, 1, 3, 3, 1), 1);
        put(x, 1, 3, 1, 60);
        due.is("30 just one", x.film(0, 1, 1, 3, 0), 1);
        due.is("30 what lies behind it stays", x.passed(0, 1, 3, 1, 1), 1);
        due.is("30 nothing is ridden", x.at(0, 1) + x.count(7), 0);
        due.all("30 wrong", BorderForge.BAD,
                x.film(2, 1, 1, 3, 0), x.film(-1, 1, 1, 3, 0), x.film(0, 9, 1, 3, 0), x.film(0, 0, 1, 3, 0),
                x.film(0, -1, 1, 3, 0), x.film(0, 1, 4, 3, 0), x.film(0, 1, -1, 3, 0), x.film(0, 1, 1, 4, 0),
                x.film(0, 1, 1, -1, 0), x.film(0, 9, 0, 0, -1));
        due.is("30 nothing there", x.film(0, 8, 0, 3, -1), BorderForge.NULL);
        due.is("30 another lane", x.film(0, 8, 1, 2, -1), BorderForge.CAST);
        due.all("30 index", BorderForge.INDEX,
                x.film(0, 1, 1, 3, -1), x.film(0, 1, 1, 3, 4), x.film(0, 3, 1, 3, 2), x.film(0, 8, 1, 3, 0),
                x.film(0, 1, 1, 3, Integer.MAX_VALUE));
        due.is("30 not so many lie ahead", x.film(0, 4, 1, 3, 0), BorderForge.NOT);
        due.is("30 refused: the row stays", x.passed(0, 1, 3, 3, 1), 1);
        x.ride(32);
        due.is("30 at the forge", x.film(0, 1, 1, 3, 0), BorderForge.NOT);

        BorderForge y = Due.on("111,111,111,111,111,111,111,111;r7/5:0");
        y.sheet(3, 1, 8);
        due.is("30 all eight", y.film(0, 8, 3, 1, 0), 8);
        due.is("30 all eight as told", y.passed(0, 3, 1, 0, 8), 16);
    }

    /** Of those next, wherever one is and whatever image there is. */
    private static void filmMidway() {
        BorderForge x = Due.on("500,300,200;p0/9,o90/9");
        x.sheet(0, 2, 3);
        x.ride(1);
        due.is("30 of two", x.film(0, 2, 0, 2, 1), 2);
        due.is("29 as filmed", x.passed(0, 0, 2, 1, 2), 1);
        x.item(0, 2, 0, 80);
        x.copy(0, 2, 0, 1, 1);
        // 80 by an item put there, 100 by the film
        due.is("29 as reckoned", x.passed(0, 0, 2, 0, 2), 1);
        x.ride(1);
        x.image();
        x.undo();
        due.is("30 from now, not as in the image", x.film(0, 1, 0, 2, 0), 1);
        due.is("29 80, then 100", x.passed(0, 0, 2, 0, 2), 1);
        due.is("30 of one far behind", x.film(1, 3, 0, 2, 0), 3);
        due.is("29 of one far behind: old, or a bride without best horses", x.passed(1, 0, 2, 0, 3), 12);
    }

    private static void sheet() {
        BorderForge x = Due.on("100;p0/0");
        due.all("31 wrong", BorderForge.BAD,
                x.sheet(-1, 0, 0), x.sheet(4, 0, 0), x.sheet(0, -1, 0), x.sheet(0, 4, 0), x.sheet(0, 0, 25),
                x.sheet(0, 0, Integer.MAX_VALUE), x.sheet(4, 0, -1), x.sheet(0, 4, -1));
        due.all("31 size", BorderForge.SIZE, x.sheet(0, 0, -1), x.sheet(3, 3, Integer.MIN_VALUE));
        due.is("31 refused: nothing", x.drop(0), BorderForge.NULL);
        for (int s = 0; s < 4; s++) {
            due.is("31 the most", x.sheet(s, s, 24), 24);
            due.is("31 the last", x.item(s, s, 23, 1), 1);
            due.is("31 behind it", x.item(s, s, 24, 1), BorderForge.INDEX);
        }
        due.is("31 a new row", x.sheet(1, 2, 0), 0);
        due.is("31 of the new lane", x.item(1, 1, 0, 0), BorderForge.CAST);
        due.is("31 of no items", x.item(1, 2, 0, 0), BorderForge.INDEX);
        due.is("31 refused: it stays", x.sheet(1, 0, -1), BorderForge.SIZE);
        due.is("31 it is something", x.drop(1), 0);

        // a new row is of noughts: only who starts with none on the way could be so
        x.sheet(0, 3, 1);
        x.item(0, 3, 0, 10);
        due.is("31 as told", x.passed(0, 0, 3, 0, 1), 1);
        x.sheet(0, 3, 1);
        due.is("31 new: nought", x.passed(0, 0, 3, 0, 1), 0);
    }

    private static void drop() {
        BorderForge x = new BorderForge();
        due.all("32 wrong", BorderForge.BAD, x.drop(-1), x.drop(4), x.drop(Integer.MAX_VALUE));
        due.is("32 nothing", x.drop(3), BorderForge.NULL);
        x.sheet(3, 1, 7);
        due.is("32 how many", x.drop(3), 7);
        due.is("32 nothing then", x.drop(3), BorderForge.NULL);
        due.is("32 nothing then", x.item(3, 1, 0, 0), BorderForge.NULL);
    }

    private static void item() {
        BorderForge x = new BorderForge();
        x.sheet(1, 2, 3);
        due.all("33 wrong", BorderForge.BAD,
                x.item(-1, 2, 0, 0), x.item(4, 2, 0, 0), x.item(1, -1, 0, 0), x.item(1, 4, 0, 0), x.item(0, 4, -1, 0));
        due.is("33 nothing", x.item(0, 2, -1, 0), BorderForge.NULL);
        due.is("33 another lane", x.item(1, 1, -1, 0), BorderForge.CAST);
        due.all("33 index", BorderForge.INDEX,
                x.item(1, 2, -1, 0), x.item(1, 2, 3, 0), x.item(1, 2, Integer.MAX_VALUE, 0), x.item(1, 2, Integer.MIN_VALUE, 0));
        due.is("33 set", x.item(1, 2, 2, Long.MIN_VALUE), 1);
    }

    private static void copy() {
        BorderForge x = Due.on("100,200,300,400;p0/0");
        x.sheet(0, 3, 8);
        x.sheet(1, 3, 6);
        x.film(0, 4, 0, 3, 0);
        due.is("34 to another", x.copy(0, 0, 1, 2, 4), 4);
        due.is("34 it is there", x.passed(0, 1, 3, 2, 4), 1);
        due.is("34 onward in the same", x.copy(0, 0, 0, 1, 4), 4);
        due.is("34 as if taken ahead", x.passed(0, 0, 3, 1, 4), 1);
        due.is("34 back in the same", x.copy(0, 1, 0, 0, 4), 4);
        due.is("34 as if taken ahead", x.passed(0, 0, 3, 0, 4), 1);
        due.is("34 of none, at the ends", x.copy(0, 8, 1, 6, 0), 0);
        due.all("34 wrong", BorderForge.BAD,
                x.copy(-1, 0, 0, 0, 0), x.copy(4, 0, 0, 0, 0), x.copy(0, 0, -1, 0, 0), x.copy(0, 0, 4, 0, 0),
                x.copy(2, -1, 4, 0, 0));
        due.all("34 nothing", BorderForge.NULL, x.copy(2, -1, 0, 0, 1), x.copy(0, 0, 2, 0, -1), x.copy(2, 0, 2, 0, 0));
        x.sheet(2, 2, 8);
        due.all("34 unlike lanes", BorderForge.CAST, x.copy(0, 0, 2, 0, 1), x.copy(2, -1, 0, 0, 99), x.copy(0, 0, 2, 0, 0));
        int most = Integer.MAX_VALUE;
        due.all("34 index", BorderForge.INDEX,
                x.copy(0, -1, 1, 0, 1), x.copy(0, 0, 1, -1, 1), x.copy(0, 0, 1, 0, -1), x.copy(0, 8, 1, 0, 1),
                x.copy(0, 0, 1, 6, 1), x.copy(0, 0, 1, 0, 7), x.copy(1, 0, 0, 0, 7), x.copy(0, 9, 1, 0, 0),
                x.copy(0, 0, 1, 7, 0), x.copy(0, most, 1, 0, most), x.copy(0, 0, 1, most, most), x.copy(0, 0, 0, 0, 9),
                x.copy(0, Integer.MIN_VALUE, 1, 0, 1));
        due.is("34 refused: it stays", x.passed(0, 1, 3, 2, 4), 1);
    }
}
