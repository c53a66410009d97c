/** The edges of images, PASSED, films, SHEETS and their LANES (part 3, promises 27 to 34): each sentence that names one. */
public final class EdgeSheetTest {
    private static final int BAD = Edge.BAD, NOT = Edge.NOT, NONE = Edge.NONE;
    private static final int NULL = Edge.NULL, CAST = Edge.CAST, INDEX = Edge.INDEX, SIZE = Edge.SIZE;
    private static final int LEAST = Edge.LEAST, MOST = Edge.MOST;

    private static final Due due = new Due("EdgeSheetTest");
    private static final Edge edge = new Edge(due);

    public static void main(String[] args) {
        imageOfNothing();
        imageIsTheLatest();
        imageKeepsAllBut();
        restoreNone();
        restoreOverAndOver();
        rowsNoSuchThing();
        rowsOfOneToEight();
        rowsNothingThere();
        rowsOfAnotherLane();
        rowsAtTheEnds();
        rowsNoMoreThanLieAhead();
        passedIsASet();
        passedAllElseAsItIs();
        filmCutsToTheLane();
        filmLeavesTheRest();
        sheetsAreFour();
        lanesAreFour();
        itemsAreTwentyFour();
        sizeBelowNought();
        aNewRowIsOfNoughts();
        drop();
        itemAtTheEnds();
        itemOfTheLane();
        itemsLowestBits();
        copyNoSuchSheet();
        copyOfNothing();
        copyOfUnlikeLanes();
        copyAtTheEnds();
        copyOfNone();
        copyWrapsNowhere();
        copyAsIfAllWereTakenAhead();
        due.end();
    }

    // ---- images

    private static void imageOfNothing() {
        edge.taken("27 of nothing", Edge::empty, 1, x -> x.image());
        BorderForge x = new BorderForge();
        x.image();
        String nothing = Edge.seen(x);
        BorderForge y = new BorderForge();
        y.image();
        Due.road(y, "521;p3/14:0");
        y.price(9);
        y.seed(9);
        y.drift(1);
        due.is("28 nothing again", y.restore(), 1);
        due.is("28 all is as it was then", Edge.seen(y).equals(nothing) ? 1 : 0, 1);
    }

    private static void imageIsTheLatest() {
        BorderForge x = Due.on("100,100;p0/0");
        x.image();
        x.ride(1);
        x.image();
        x.ride(1);
        due.is("28 the latest one", x.restore(), 1);
        due.is("28 as it was then", x.at(0, 1), 1);
        edge.taken("27 in place of another one", Edge::midway, 1, y -> y.image());
    }

    private static void imageKeepsAllBut() {
        BorderForge x = Edge.midway();
        x.image();
        BorderForge twin = Edge.midway();
        twin.image();
        String then = Edge.seen(twin);
        // all is told anew, but for sheets and the tape, which are none of it
        x.stage(9, 9, 4);
        x.rider(3, 999, 99);
        x.buys(0, 63);
        x.price(9);
        x.seed(5);
        x.drift(32);
        x.give(0, 1, 1);
        due.is("28 restored", x.restore(), 1);
        due.is("28 all is as it was then", Edge.seen(x).equals(then) ? 1 : 0, 1);
        BorderForge y = Edge.midway();
        y.sheet(0, 1, 9);
        y.drop(1);
        y.sheet(3, 2, 24);
        y.type('1');
        y.restore();
        due.is("28 sheets stay: another row", y.drop(0), 9);
        due.is("28 sheets stay: nothing", y.drop(1), NULL);
        due.is("28 sheets stay: a new row", y.drop(3), 24);
        due.is("28 the tape stays", Due.type(y, ";p0/0"), 8);
        due.is("28 the tape stays", y.road(), 1);
    }

    private static void restoreNone() {
        edge.same("28 there is none", Edge::empty, NONE, x -> x.restore());
        edge.same("28 there is none of a road", () -> Due.on("521;p3/14:0"), NONE, x -> x.restore());
    }

    private static void restoreOverAndOver() {
        BorderForge x = Edge.midway();
        String first = null;
        for (int k = 0; k < 3; k++) {
            due.is("28 again", x.restore(), 1);
            StringBuilder told = new StringBuilder();
            for (int what = 0; what < 8; what++) {
                told.append(x.count(what)).append(' ');
            }
            first = first == null ? told.toString() : first;
            due.is("28 as it was then", told.toString().equals(first) ? 1 : 0, 1);
            due.is("28 two may be undone", x.undo(), 1);
            x.ride(32);
            x.stage(1, 1, 1);
        }
    }

    // ---- passed and film, which share what a row is

    private static void rowsNoSuchThing() {
        for (int r : new int[] {-1, 3, LEAST, MOST}) {
            edge.same("29, 30 no rider " + r, Edge::midway, BAD, x -> x.passed(r, 1, 3, 0, 1), x -> x.film(r, 1, 1, 3, 0));
        }
        for (int s : new int[] {-1, 4, LEAST, MOST}) {
            edge.same("29, 30 no sheet " + s, Edge::midway, BAD, x -> x.passed(2, s, 3, 0, 1), x -> x.film(2, 1, s, 3, 0));
        }
        for (int lane : new int[] {-1, 4, LEAST, MOST}) {
            edge.same("29, 30 no lane " + lane, Edge::midway, BAD, x -> x.passed(2, 1, lane, 0, 1), x -> x.film(2, 1, 1, lane, 0));
        }
        edge.same("29, 30 no fifth rider", Edge::brim, BAD, x -> x.passed(4, 3, 3, 0, 1), x -> x.film(4, 1, 3, 3, 0));
    }

    private static void rowsOfOneToEight() {
        for (int n = 1; n <= 8; n++) {
            int many = n;
            edge.same("29 of " + n, Edge::brim, 4, x -> x.passed(2, 3, 3, 16, many));
            edge.taken("30 of " + n, Edge::brim, n, x -> x.film(1, many, 3, 3, 16));
        }
        // n is told as 1 .. 8, and above 8 once more
        edge.same("29 above 8, below 1", Edge::brim, BAD,
                x -> x.passed(2, 3, 3, 0, 9), x -> x.passed(2, 3, 3, 0, MOST), x -> x.passed(2, 3, 3, 0, 0),
                x -> x.passed(2, 3, 3, 0, -1), x -> x.passed(2, 3, 3, 0, LEAST));
        edge.same("30 above 8, below 1", Edge::brim, BAD,
                x -> x.film(2, 9, 3, 3, 0), x -> x.film(2, MOST, 3, 3, 0), x -> x.film(2, 0, 3, 3, 0),
                x -> x.film(2, -1, 3, 3, 0), x -> x.film(2, LEAST, 3, 3, 0));
    }

    private static void rowsNothingThere() {
        for (int l = 0; l < 4; l++) {
            int lane = l;
            edge.same("29 nothing there, of lane " + l, Edge::midway, NULL, x -> x.passed(2, 3, lane, 0, 1));
            edge.same("30 nothing there, of lane " + l, Edge::midway, NULL, x -> x.film(2, 1, 3, lane, 0));
        }
        BorderForge x = Edge.midway();
        x.drop(1);
        due.is("29 dropped", x.passed(2, 1, 3, 0, 1), NULL);
        due.is("30 dropped", x.film(2, 1, 1, 3, 0), NULL);
        x.sheet(1, 3, 0);
        due.is("29 a row of none is something", x.passed(2, 1, 3, 0, 1), INDEX);
        due.is("30 a row of none is something", x.film(2, 1, 1, 3, 0), INDEX);
    }

    private static void rowsOfAnotherLane() {
        for (int s = 0; s < 4; s++) {
            for (int l = 0; l < 4; l++) {
                int sheet = s;
                int lane = l;
                if (s == l) {
                    edge.same("29 of its lane " + l, Edge::brim, 4, x -> x.passed(2, sheet, lane, 16, 1));
                    edge.taken("30 of its lane " + l, Edge::brim, 1, x -> x.film(1, 1, sheet, lane, 16));
                } else {
                    edge.same("29 of another lane " + s + l, Edge::brim, CAST, x -> x.passed(2, sheet, lane, 16, 1));
                    edge.same("30 of another lane " + s + l, Edge::brim, CAST, x -> x.film(1, 1, sheet, lane, 16));
                }
            }
        }
    }

    private static void rowsAtTheEnds() {
        // 24 items: the last that n of them can begin at is 24 less n
        for (int n = 1; n <= 8; n++) {
            int many = n;
            edge.same("29 behind the last, of " + n, Edge::brim, INDEX,
                    x -> x.passed(2, 3, 3, 25 - many, many), x -> x.passed(2, 3, 3, -1, many));
            edge.same("30 behind the last, of " + n, Edge::brim, INDEX,
                    x -> x.film(1, many, 3, 3, 25 - many), x -> x.film(1, many, 3, 3, -1));
            edge.same("29 just to the last, of " + n, Edge::brim, n == 8 ? 4 : 0, x -> x.passed(2, 3, 3, 24 - many, many));
            edge.taken("30 just to the last, of " + n, Edge::brim, n, x -> x.film(1, many, 3, 3, 24 - many));
            edge.is("30 from the first, of " + n, Edge::brim, n, x -> x.film(1, many, 3, 3, 0));
        }
        edge.same("29 far off", Edge::brim, INDEX,
                x -> x.passed(2, 3, 3, LEAST, 1), x -> x.passed(2, 3, 3, MOST, 1), x -> x.passed(2, 3, 3, MOST, 8),
                x -> x.passed(2, 3, 3, MOST - 7, 8), x -> x.passed(2, 3, 3, 24, 1));
        edge.same("30 far off", Edge::brim, INDEX,
                x -> x.film(2, 1, 3, 3, LEAST), x -> x.film(2, 1, 3, 3, MOST), x -> x.film(2, 8, 3, 3, MOST),
                x -> x.film(2, 8, 3, 3, MOST - 7), x -> x.film(2, 1, 3, 3, 24));
    }

    private static void rowsNoMoreThanLieAhead() {
        // riders 0 and 1 have 2 ahead of them, the forge with them; rider 2 has 5
        edge.same("29 as many as lie ahead", Edge::midway, 0, x -> x.passed(0, 1, 3, 0, 2), x -> x.passed(1, 1, 3, 0, 2));
        edge.same("29 one more", Edge::midway, NOT,
                x -> x.passed(0, 1, 3, 0, 3), x -> x.passed(1, 1, 3, 0, 3), x -> x.passed(2, 1, 3, 0, 6), x -> x.passed(2, 1, 3, 0, 8));
        edge.same("30 one more", Edge::midway, NOT,
                x -> x.film(0, 3, 1, 3, 0), x -> x.film(1, 3, 1, 3, 0), x -> x.film(2, 6, 1, 3, 0), x -> x.film(2, 8, 1, 3, 0));
        edge.taken("30 as many as lie ahead", Edge::midway, 2, x -> x.film(0, 2, 1, 3, 0));
        BorderForge x = Edge.midway();
        due.is("30 all five", x.film(2, 5, 1, 3, 0), 5);
        due.is("29 all five", x.passed(2, 1, 3, 0, 5), 16);
        edge.same("29 at the forge: none lies ahead", Edge::arrived, NOT, y -> y.passed(0, 1, 3, 0, 1), y -> y.passed(2, 1, 3, 0, 8));
        edge.same("30 at the forge: none lies ahead", Edge::arrived, NOT, y -> y.film(0, 1, 1, 3, 0), y -> y.film(2, 8, 1, 3, 0));
        BorderForge z = new BorderForge();
        z.rider(0, 0, 0);
        z.sheet(0, 3, 1);
        due.is("29 no stages", z.passed(0, 0, 3, 0, 1), NOT);
        due.is("30 no stages", z.film(0, 1, 0, 3, 0), NOT);
        z.stage(1, 0, 0);
        due.is("30 one stage: the forge", z.film(0, 1, 0, 3, 0), 1);
        due.is("29 one stage: the forge", z.passed(0, 0, 3, 0, 1), 1);
        due.is("29 one stage: no more", z.passed(0, 0, 3, 0, 2), INDEX);
    }

    private static void passedIsASet() {
        // of 2 miles: plain 20, snowed 25, old and bride 30, brother 15; of 1 mile: plain 10, old 15, brother 5, snowed 15
        BorderForge x = Due.on("200,100;p0/0");
        x.sheet(0, 2, 2);
        int[][] rows = {{20, 30, 1}, {25, 40, 2}, {30, 45, 12}, {15, 20, 16}, {20, 31, 0}, {0, 0, 0}, {-20, 30, 0}, {21, 30, 0}};
        for (int[] row : rows) {
            x.item(0, 2, 0, row[0]);
            x.item(0, 2, 1, row[1]);
            due.is("29 kinds of " + row[0] + ", " + row[1], x.passed(0, 0, 2, 0, 2), row[2]);
        }
        // each item counts, the last one too
        x.item(0, 2, 0, 20);
        due.is("29 by the first alone", x.passed(0, 0, 2, 0, 1), 1);
        x.item(0, 2, 1, 40);
        due.is("29 not by the second", x.passed(0, 0, 2, 0, 2), 0);
        // of one mile snowed is as old
        BorderForge y = Due.on("100;p0/0");
        y.sheet(0, 2, 1);
        y.item(0, 2, 0, 15);
        due.is("29 snowed, old, bride", y.passed(0, 0, 2, 0, 1), 14);
    }

    private static void passedAllElseAsItIs() {
        // the other one is at the only best horses in minute 14: who comes there in 15 has none
        BorderForge x = Due.on("100,501;p0/9:1,p4/9:1");
        x.sheet(0, 2, 2);
        int[][] rows = {{10, 40, 1}, {15, 70, 2}, {15, 90, 12}, {5, 34, 16}, {15, 50, 0}, {15, 60, 0}, {15, 45, 0}};
        for (int[] row : rows) {
            x.item(0, 2, 0, row[0]);
            x.item(0, 2, 1, row[1]);
            due.is("29 kinds of " + row[0] + ", " + row[1], x.passed(0, 0, 2, 0, 2), row[2]);
        }
        due.is("29 its kind stays", x.at(0, 0), 0);
    }

    private static void filmCutsToTheLane() {
        // to the forge in 130: as a byte it is below 0, so it is not told of by that row
        BorderForge x = Due.on("100;p120/0");
        int[] told = {0, 1, 1, 1};
        for (int lane = 0; lane < 4; lane++) {
            x.sheet(lane, lane, 1);
            due.is("30 to lane " + lane, x.film(0, 1, lane, lane, 0), 1);
            due.is("29 of lane " + lane, x.passed(0, lane, lane, 0, 1), told[lane]);
        }
        BorderForge y = Due.on("100;p117/0");
        y.sheet(0, 0, 1);
        due.is("30 127 is the most of a byte", y.film(0, 1, 0, 0, 0), 1);
        due.is("29 127 is told", y.passed(0, 0, 0, 0, 1), 1);
        BorderForge z = Due.on("100;p118/0");
        z.sheet(0, 0, 1);
        z.film(0, 1, 0, 0, 0);
        due.is("29 128 is not", z.passed(0, 0, 0, 0, 1), 0);
        // 266 is 10 by its lowest 8 bits
        BorderForge w = Due.on("100;p256/0,p0/0");
        w.sheet(0, 0, 1);
        w.film(0, 1, 0, 0, 0);
        due.is("30 its lowest bits", w.passed(1, 0, 0, 0, 1), 1);
        due.is("29 not so of the other", w.passed(0, 0, 0, 0, 1), 0);
    }

    private static void filmLeavesTheRest() {
        BorderForge x = Due.on("100,100;p0/0");
        x.sheet(0, 2, 4);
        for (int i = 0; i < 4; i++) {
            x.item(0, 2, i, 10);
        }
        due.is("30 two in the middle", x.film(0, 2, 0, 2, 1), 2);
        int[] told = {1, 1, 0, 1};
        for (int i = 0; i < 4; i++) {
            due.is("30 the others stay " + i, x.passed(0, 0, 2, i, 1), told[i]);
        }
        due.is("30 in a row", x.passed(0, 0, 2, 1, 2), 1);
        due.is("30 nothing is ridden", x.count(7), 0);
    }

    // ---- sheets

    private static void sheetsAreFour() {
        for (int s = 0; s < 4; s++) {
            BorderForge x = new BorderForge();
            due.is("32 nothing at first", x.drop(s), NULL);
            due.is("31 sheets 0 .. 3", x.sheet(s, 2, 5), 5);
            for (int other = 0; other < 4; other++) {
                due.is("31 just that one", x.drop(other), other == s ? 5 : NULL);
            }
        }
        edge.same("31 no such sheet", Edge::midway, BAD,
                x -> x.sheet(-1, 0, 1), x -> x.sheet(LEAST, 0, 1), x -> x.sheet(4, 0, 1), x -> x.sheet(MOST, 0, 1));
    }

    private static void lanesAreFour() {
        for (int lane = 0; lane < 4; lane++) {
            BorderForge x = new BorderForge();
            due.is("31 lanes 0 .. 3", x.sheet(0, lane, 1), 1);
            for (int other = 0; other < 4; other++) {
                due.is("31 of that one", x.item(0, other, 0, 0), other == lane ? 1 : CAST);
            }
        }
        edge.same("31 no such lane", Edge::midway, BAD,
                x -> x.sheet(0, -1, 1), x -> x.sheet(0, LEAST, 1), x -> x.sheet(0, 4, 1), x -> x.sheet(0, MOST, 1));
    }

    private static void itemsAreTwentyFour() {
        for (int n = 0; n <= 24; n++) {
            BorderForge x = new BorderForge();
            due.is("31 0 to 24 items", x.sheet(1, 3, n), n);
            due.is("31 behind the last of " + n, x.item(1, 3, n, 1), INDEX);
            due.is("31 the last of " + n, x.item(1, 3, n - 1, 1), n == 0 ? INDEX : 1);
            due.is("32 as many", x.drop(1), n);
        }
        edge.same("31 above 24", Edge::midway, BAD, x -> x.sheet(0, 3, 25), x -> x.sheet(3, 0, 25), x -> x.sheet(0, 3, MOST));
    }

    private static void sizeBelowNought() {
        edge.same("31 below 0", Edge::midway, SIZE, x -> x.sheet(0, 3, -1), x -> x.sheet(3, 0, -1), x -> x.sheet(0, 3, LEAST));
        edge.taken("31 none", Edge::midway, 0, x -> x.sheet(0, 3, 0), x -> x.sheet(3, 0, 0));
    }

    private static void aNewRowIsOfNoughts() {
        // no minute to come is 0, so a new row tells of nobody; what stood there would
        BorderForge x = Due.on("100;p0/0");
        x.sheet(0, 3, 2);
        x.item(0, 3, 0, 10);
        x.item(0, 3, 1, 10);
        due.is("31 as put", x.passed(0, 0, 3, 1, 1), 1);
        x.sheet(0, 3, 2);
        due.is("31 a new row of the same lane", x.passed(0, 0, 3, 0, 1), 0);
        due.is("31 a new row of the same lane", x.passed(0, 0, 3, 1, 1), 0);
        x.sheet(1, 3, 1);
        x.item(1, 3, 0, 10);
        x.drop(1);
        x.sheet(1, 3, 1);
        due.is("31 behind a drop", x.passed(0, 1, 3, 0, 1), 0);
        edge.taken("31 in place of the old one", Edge::midway, 6, y -> y.sheet(0, 3, 6), y -> y.sheet(2, 0, 6));
    }

    private static void drop() {
        edge.taken("32 how many", Edge::midway, 6, x -> x.drop(0));
        edge.taken("32 how many", Edge::midway, 24, x -> x.drop(1));
        edge.same("32 nothing", Edge::midway, NULL, x -> x.drop(3));
        edge.same("32 no such sheet", Edge::midway, BAD, x -> x.drop(-1), x -> x.drop(LEAST), x -> x.drop(4), x -> x.drop(MOST));
        BorderForge x = new BorderForge();
        x.sheet(3, 0, 0);
        due.is("32 a row of none", x.drop(3), 0);
        due.is("32 then nothing", x.drop(3), NULL);
    }

    private static void itemAtTheEnds() {
        edge.taken("33 the first, the last", Edge::midway, 1, x -> x.item(2, 0, 1, 0), x -> x.item(0, 3, 2, 7));
        edge.is("33 the first, the last", Edge::midway, 1, x -> x.item(0, 3, 0, 9), x -> x.item(0, 3, 5, 9), x -> x.item(1, 3, 23, 9));
        edge.same("33 ahead of the first, behind the last", Edge::midway, INDEX,
                x -> x.item(0, 3, -1, 9), x -> x.item(0, 3, LEAST, 9), x -> x.item(0, 3, 6, 9), x -> x.item(0, 3, 23, 9),
                x -> x.item(0, 3, MOST, 9), x -> x.item(1, 3, 24, 9), x -> x.item(2, 0, 4, 9));
        edge.same("33 no such sheet", Edge::midway, BAD,
                x -> x.item(-1, 3, 0, 9), x -> x.item(LEAST, 3, 0, 9), x -> x.item(4, 3, 0, 9), x -> x.item(MOST, 3, 0, 9));
        edge.same("33 no such lane", Edge::midway, BAD,
                x -> x.item(0, -1, 0, 9), x -> x.item(0, LEAST, 0, 9), x -> x.item(0, 4, 0, 9), x -> x.item(0, MOST, 0, 9));
        edge.same("33 nothing", Edge::midway, NULL, x -> x.item(3, 0, 0, 9), x -> x.item(3, 3, 0, 9));
    }

    private static void itemOfTheLane() {
        for (int s = 0; s < 4; s++) {
            for (int l = 0; l < 4; l++) {
                int sheet = s;
                int lane = l;
                if (s == l) {
                    edge.taken("33 of its lane " + l, Edge::brim, 1, x -> x.item(sheet, lane, 23, 9));
                } else {
                    edge.same("33 of another lane " + s + l, Edge::brim, CAST, x -> x.item(sheet, lane, 23, 9));
                }
            }
        }
    }

    private static void itemsLowestBits() {
        // 100 with bits above those of the lane put to it, and, for each, 100 with the lane's highest bit
        int[] bits = {8, 16, 32, 64};
        for (int lane = 0; lane < 4; lane++) {
            BorderForge x = Due.on("100;p90/0");
            x.sheet(0, lane, 1);
            long[] same = lane == 3 ? new long[] {100} : new long[] {
                100, 100 + (1L << bits[lane]), 100 - (1L << bits[lane]), 100 + (1L << 63), 100 + 7 * (1L << bits[lane]),
            };
            for (long v : same) {
                due.is("33 put " + v, x.item(0, lane, 0, v), 1);
                due.is("33 100 of lane " + lane, x.passed(0, 0, lane, 0, 1), 1);
            }
            long[] other = {100 + (1L << bits[lane] - 1), 99, 101, 0, -100, 100 ^ 1L << bits[lane] - 2, Long.MIN_VALUE, Long.MAX_VALUE};
            for (long v : other) {
                x.item(0, lane, 0, v);
                due.is("33 not 100 of lane " + lane + ": " + v, x.passed(0, 0, lane, 0, 1), 0);
            }
        }
    }

    private static void copyNoSuchSheet() {
        for (int s : new int[] {-1, 4, LEAST, MOST}) {
            edge.same("34 no sheet " + s, Edge::midway, BAD, x -> x.copy(s, 0, 0, 0, 1), x -> x.copy(0, 0, s, 0, 1), x -> x.copy(s, 0, s, 0, 0));
        }
    }

    private static void copyOfNothing() {
        edge.same("34 either is nothing", Edge::midway, NULL,
                x -> x.copy(3, 0, 0, 0, 1), x -> x.copy(0, 0, 3, 0, 1), x -> x.copy(3, 0, 3, 0, 0), x -> x.copy(3, 0, 2, 0, 0));
    }

    private static void copyOfUnlikeLanes() {
        for (int a = 0; a < 4; a++) {
            for (int b = 0; b < 4; b++) {
                int from = a;
                int to = b;
                if (a == b) {
                    edge.taken("34 of its own lane", Edge::brim, 8, x -> x.copy(from, 0, to, 16, 8));
                } else {
                    edge.same("34 of unlike lanes " + a + b, Edge::brim, CAST, x -> x.copy(from, 0, to, 16, 8), x -> x.copy(from, 0, to, 0, 0));
                }
            }
        }
    }

    private static void copyAtTheEnds() {
        // from 6 items to 24
        edge.taken("34 all six", Edge::midway, 6, x -> x.copy(0, 0, 1, 0, 6), x -> x.copy(1, 18, 0, 0, 6));
        edge.is("34 all six, to the last", Edge::midway, 6, x -> x.copy(0, 0, 1, 18, 6));
        edge.is("34 the last to the last", Edge::midway, 1, x -> x.copy(0, 5, 1, 23, 1), x -> x.copy(1, 23, 0, 5, 1));
        edge.is("34 all of it, to itself", Edge::midway, 24, x -> x.copy(1, 0, 1, 0, 24));
        edge.same("34 behind the last it is taken from", Edge::midway, INDEX,
                x -> x.copy(0, 0, 1, 0, 7), x -> x.copy(0, 1, 1, 0, 6), x -> x.copy(0, 6, 1, 0, 1), x -> x.copy(0, 5, 1, 0, 2));
        edge.same("34 behind the last it comes to", Edge::midway, INDEX,
                x -> x.copy(1, 0, 0, 0, 7), x -> x.copy(1, 0, 0, 1, 6), x -> x.copy(1, 0, 0, 6, 1), x -> x.copy(0, 0, 1, 19, 6));
        edge.same("34 ahead of the first", Edge::midway, INDEX,
                x -> x.copy(0, -1, 1, 0, 1), x -> x.copy(0, 0, 1, -1, 1), x -> x.copy(0, -1, 1, -1, 1), x -> x.copy(0, LEAST, 1, 0, 1),
                x -> x.copy(0, 0, 1, LEAST, 1));
        edge.same("34 fewer than none", Edge::midway, INDEX,
                x -> x.copy(0, 0, 1, 0, -1), x -> x.copy(0, 3, 1, 3, -1), x -> x.copy(0, 0, 1, 0, LEAST), x -> x.copy(0, 0, 0, 0, -1));
    }

    private static void copyOfNone() {
        edge.same("34 none, from and to where there is an item, or just behind", Edge::midway, 0,
                x -> x.copy(0, 0, 1, 0, 0), x -> x.copy(0, 6, 1, 0, 0), x -> x.copy(0, 0, 1, 24, 0), x -> x.copy(0, 6, 1, 24, 0),
                x -> x.copy(2, 4, 2, 4, 0));
        edge.same("34 none, farther off", Edge::midway, INDEX,
                x -> x.copy(0, 7, 1, 0, 0), x -> x.copy(0, 0, 1, 25, 0), x -> x.copy(0, -1, 1, 0, 0), x -> x.copy(0, 0, 1, -1, 0));
        BorderForge y = new BorderForge();
        y.sheet(0, 0, 0);
        due.is("34 none of none", y.copy(0, 0, 0, 0, 0), 0);
        due.is("34 one of none", y.copy(0, 0, 0, 0, 1), INDEX);
    }

    /** Where i and n together would go round, it is behind the last all the same. */
    private static void copyWrapsNowhere() {
        edge.same("34 far off", Edge::midway, INDEX,
                x -> x.copy(0, MOST, 1, 0, 1), x -> x.copy(0, MOST, 1, 0, MOST), x -> x.copy(0, 1, 1, 1, MOST),
                x -> x.copy(0, 0, 1, MOST, 1), x -> x.copy(0, 0, 1, MOST, MOST), x -> x.copy(0, MOST, 1, MOST, 2),
                x -> x.copy(0, 0, 1, 0, MOST), x -> x.copy(0, LEAST, 1, LEAST, LEAST), x -> x.copy(0, MOST, 1, 0, LEAST));
    }

    private static void copyAsIfAllWereTakenAhead() {
        for (int shift = 1; shift < 4; shift++) {
            BorderForge x = Due.on("100,200,300,400;p0/0");
            x.sheet(0, 2, 8);
            x.film(0, 4, 0, 2, 0);
            due.is("34 onward by " + shift, x.copy(0, 0, 0, shift, 4), 4);
            due.is("34 as if taken ahead", x.passed(0, 0, 2, shift, 4), 1);
            due.is("34 the first stays", x.passed(0, 0, 2, 0, 1), 1);
            due.is("34 back by " + shift, x.copy(0, shift, 0, 0, 4), 4);
            due.is("34 as if taken ahead", x.passed(0, 0, 2, 0, 4), 1);
        }
        BorderForge y = Due.on("100,200,300,400;p0/0");
        y.sheet(0, 2, 8);
        y.sheet(1, 2, 8);
        y.film(0, 4, 0, 2, 0);
        due.is("34 to another one", y.copy(0, 1, 1, 5, 3), 3);
        due.is("34 where it was taken it stays", y.passed(0, 0, 2, 0, 4), 1);
        y.copy(0, 0, 1, 4, 1);
        due.is("34 there it is", y.passed(0, 1, 2, 4, 4), 1);
        due.is("34 ahead of it nothing has come", y.passed(0, 1, 2, 3, 1), 0);
    }
}
