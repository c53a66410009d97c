/** The edges of what is done and UNDONE, of a DRIFT and THE DRAW (part 3, promises 11 to 16): each sentence that names one. */
public final class EdgeDoneTest {
    private static final int BAD = Edge.BAD, NOT = Edge.NOT, NONE = Edge.NONE;
    private static final int LEAST = Edge.LEAST, MOST = Edge.MOST;

    private static final Due due = new Due("EdgeDoneTest");
    private static final Edge edge = new Edge(due);

    public static void main(String[] args) {
        rideOneToThirtyTwo();
        rideTillAllAreThere();
        rideNot();
        wheelOfARider();
        wheelNot();
        giveOneToNinetyNine();
        giveNotSoMany();
        giveNinetyNineAtMost();
        giveAlike();
        driftOneToThirtyTwo();
        driftTillAllAreThere();
        driftNot();
        driftDrawsAheadOfEachStage();
        aWheelIsOffWhenNothingIsLeftOver();
        theDrawIsOfThirtyOneBits();
        onlyADriftDraws();
        undoEightAreKnown();
        undoEachKind();
        undoWhateverWasToldSince();
        undoTheDraw();
        undoNone();
        undoTheRingGoesRound();
        newOnesLeaveNothing();
        refusedOnesLeaveIt();
        seed();
        due.end();
    }

    private static BorderForge eightTimesFour() {
        return Due.on("100,100,100,100,100,100,100,100;p0/0,p0/0,p0/0,p0/0");
    }

    private static int ridden(BorderForge x) {
        int sum = 0;
        for (int r = 0; r < x.count(1); r++) {
            sum += x.at(r, 1);
        }
        return sum;
    }

    private static void rideOneToThirtyTwo() {
        for (int n = 1; n <= 32; n++) {
            BorderForge x = eightTimesFour();
            due.is("11 of 32: " + n, x.ride(n), n);
            due.is("11 so many are ridden", ridden(x), n);
            due.is("11 each may be undone, 8 at most", x.count(7), Math.min(8, n));
        }
        edge.same("11 below 1, above 32", Edge::midway, BAD,
                x -> x.ride(0), x -> x.ride(-1), x -> x.ride(LEAST), x -> x.ride(33), x -> x.ride(MOST));
        edge.same("11 below 1, above 32, though there is as much to ride", EdgeDoneTest::eightTimesFour, BAD,
                x -> x.ride(0), x -> x.ride(33));
    }

    private static void rideTillAllAreThere() {
        BorderForge x = Due.on("100,100;p0/0,p0/0");
        due.is("11 all but one", x.ride(3), 3);
        due.is("11 not all are there", x.count(3), 1);
        due.is("11 till all are there", x.ride(2), 1);
        due.is("11 all are there", x.count(3), 3);
        BorderForge y = Due.on("100,100;p0/0,p0/0");
        due.is("11 just as many", y.ride(4), 4);
        BorderForge z = Due.on("100,100;p0/0,p0/0");
        due.is("11 one more than there are", z.ride(5), 4);
        due.is("11 so many may be undone", z.count(7), 4);
    }

    private static void rideNot() {
        edge.same("11 all are there", Edge::arrived, NOT, x -> x.ride(1), x -> x.ride(32));
        edge.same("11 nobody", Edge::empty, NOT, x -> x.ride(1), x -> x.ride(32));
        BorderForge x = new BorderForge();
        x.stage(1, 0, 0);
        due.is("11 a road, nobody on it", x.ride(1), NOT);
        BorderForge y = new BorderForge();
        y.rider(0, 0, 0);
        due.is("11 a rider, no road", y.ride(1), NOT);
        y.stage(1, 0, 0);
        due.is("11 a road for it", y.ride(1), 1);
        y.stage(1, 0, 0);
        due.is("11 a stage more", y.ride(1), 1);
        due.is("11 no more", y.ride(1), NOT);
    }

    private static void wheelOfARider() {
        edge.taken("12 the first rider", Edge::midway, 73, x -> x.wheel(0));
        edge.taken("12 the last rider", Edge::midway, 68, x -> x.wheel(2));
        edge.taken("12 the fourth rider", Edge::brim, 60, x -> x.wheel(3));
        edge.same("12 no such rider", Edge::midway, BAD,
                x -> x.wheel(-1), x -> x.wheel(LEAST), x -> x.wheel(3), x -> x.wheel(MOST));
        edge.same("12 no fifth rider", Edge::brim, BAD, x -> x.wheel(4));
        BorderForge x = Due.on("100;p999/0");
        due.is("12 above the latest start", x.wheel(0), 1029);
        due.is("12 its stage stays", x.at(0, 1), 0);
    }

    private static void wheelNot() {
        edge.same("12 at the forge", Edge::arrived, NOT, x -> x.wheel(0), x -> x.wheel(1), x -> x.wheel(2));
        BorderForge x = new BorderForge();
        x.rider(0, 5, 0);
        due.is("12 no stages: at the forge", x.wheel(0), NOT);
        BorderForge y = Due.on("100,100;p0/0,p5/0");
        y.ride(3);
        due.is("12 one is there", y.wheel(0), NOT);
        due.is("12 at the last stage", y.wheel(1), 45);
    }

    private static void giveOneToNinetyNine() {
        BorderForge x = Due.on("100;p0/99,p0/0");
        due.is("13 one", x.give(0, 1, 1), 1);
        due.is("13 one less", x.at(0, 3), 98);
        due.is("13 one may be undone", x.count(7), 1);
        BorderForge y = Due.on("100;p0/99,p0/0");
        due.is("13 99", y.give(0, 1, 99), 99);
        due.is("13 none left", y.at(0, 3), 0);
        edge.same("13 below 1, above 99", Edge::midway, BAD,
                z -> z.give(0, 1, 0), z -> z.give(0, 1, -1), z -> z.give(0, 1, LEAST), z -> z.give(0, 1, 100),
                z -> z.give(0, 1, MOST));
        edge.same("13 above 99, though it has 99", Edge::brim, BAD, z -> z.give(0, 1, 100), z -> z.give(0, 1, 0));
        edge.same("13 no such riders", Edge::midway, BAD,
                z -> z.give(-1, 0, 1), z -> z.give(3, 0, 1), z -> z.give(LEAST, 0, 1), z -> z.give(MOST, 0, 1),
                z -> z.give(0, -1, 1), z -> z.give(0, 3, 1), z -> z.give(0, LEAST, 1), z -> z.give(0, MOST, 1));
    }

    private static void giveNotSoMany() {
        // it has 17
        edge.taken("13 all it has", Edge::midway, 36, x -> x.give(0, 1, 17));
        edge.same("13 one more than it has", Edge::midway, NOT, x -> x.give(0, 1, 18), x -> x.give(0, 1, 99));
        edge.same("13 it has none", EdgeDoneTest::eightTimesFour, NOT, x -> x.give(0, 1, 1));
        edge.taken("13 at the forge, too", Edge::arrived, 4, x -> x.give(0, 2, 1));
    }

    private static void giveNinetyNineAtMost() {
        int[][] rows = {{50, 48, 98}, {50, 49, 99}, {50, 50, 99}, {99, 99, 99}, {1, 99, 99}, {99, 0, 99}};
        for (int[] row : rows) {
            BorderForge x = Due.on("100;p0/" + row[0] + ",p0/" + row[1]);
            due.is("13 " + row[0] + " to " + row[1], x.give(0, 1, row[0]), row[2]);
            due.is("13 coins that has", x.at(1, 3), row[2]);
            due.is("13 the rest is lost", x.at(0, 3), 0);
            due.is("13 undone", x.undo(), 0);
            due.is("13 what was lost is back", x.at(0, 3), row[0]);
            due.is("13 what was had is back", x.at(1, 3), row[1]);
        }
    }

    private static void giveAlike() {
        edge.same("13 alike", Edge::midway, BAD, x -> x.give(0, 0, 1), x -> x.give(1, 1, 1), x -> x.give(2, 2, 9));
    }

    private static void driftOneToThirtyTwo() {
        for (int n = 1; n <= 32; n++) {
            BorderForge x = eightTimesFour();
            int off = 0;
            long draw = 1;
            for (int k = 0; k < n; k++) {
                draw = next(draw);
                off += draw / 65536 % 6 == 0 ? 1 : 0;
            }
            due.is("14 wheels off in " + n, x.drift(n), off);
            due.is("14 so many are ridden", ridden(x), n);
            due.is("14 each may be undone, 8 at most", x.count(7), Math.min(8, n));
            due.is("14 so many draws", x.seed(1), draw);
        }
        edge.same("14 below 1, above 32", Edge::midway, BAD,
                x -> x.drift(0), x -> x.drift(-1), x -> x.drift(LEAST), x -> x.drift(33), x -> x.drift(MOST));
        edge.same("14 below 1, above 32, though there is as much to ride", EdgeDoneTest::eightTimesFour, BAD,
                x -> x.drift(0), x -> x.drift(33));
    }

    private static void driftTillAllAreThere() {
        BorderForge x = Due.on("100,100;p0/0,p0/0");
        x.drift(5);
        due.is("14 till all are there", x.count(3), 3);
        due.is("14 four of five", x.count(7), 4);
        due.is("14 four draws", x.seed(1), next(next(next(next(1)))));
    }

    private static void driftNot() {
        edge.same("14 all are there", Edge::arrived, NOT, x -> x.drift(1), x -> x.drift(32));
        edge.same("14 nobody", Edge::empty, NOT, x -> x.drift(1), x -> x.drift(32));
        BorderForge x = new BorderForge();
        x.rider(0, 0, 0);
        due.is("14 a rider, no road", x.drift(1), NOT);
        due.is("14 nothing is drawn", x.seed(1), 1);
    }

    /** By the document's words, in wide numbers. */
    private static long next(long draw) {
        return (draw * 1103515245L + 12345L) % (1L << 31);
    }

    private static void driftDrawsAheadOfEachStage() {
        // who rides second is known only when the first wheel is off, or not
        for (int seed = 0; seed < 60; seed++) {
            BorderForge x = Due.on("100,100;p0/0,p15/0");
            x.seed(seed);
            long one = next(seed);
            long two = next(one);
            boolean off = one / 65536 % 6 == 0;
            boolean offThen = two / 65536 % 6 == 0;
            due.is("14 by " + seed, x.drift(2), (off ? 1 : 0) + (offThen ? 1 : 0));
            due.is("14 the first", x.at(0, 2), off ? 40 : 20 + (offThen ? 30 : 0));
            due.is("14 the second", x.at(1, 2), off ? 25 + (offThen ? 30 : 0) : 15);
        }
    }

    private static void aWheelIsOffWhenNothingIsLeftOver() {
        // of each number that may be left over by 6 some seed is found
        int[] found = new int[6];
        for (int seed = 0; seed < 100; seed++) {
            int left = (int) (next(seed) / 65536 % 6);
            found[left]++;
            BorderForge x = Due.on("100;p0/0");
            x.seed(seed);
            due.is("14 left over " + left, x.drift(1), left == 0 ? 1 : 0);
            due.is("14 thirty minutes more, or none", x.at(0, 2), left == 0 ? 40 : 10);
        }
        for (int left = 0; left < 6; left++) {
            due.is("14 some with " + left + " left over", found[left] > 0 ? 1 : 0, 1);
        }
    }

    private static void theDrawIsOfThirtyOneBits() {
        // 31 bits, not 32: these go over the edge
        for (int seed : new int[] {0, 1, 2, MOST - 1, MOST, 1 << 30, 1 << 16, (1 << 30) + 1}) {
            BorderForge x = Due.on("100,100,100,100;p0/0");
            x.seed(seed);
            long draw = seed;
            for (int k = 0; k < 4; k++) {
                x.drift(1);
                draw = next(draw);
                due.is("14 the draw by " + seed, x.seed((int) draw), draw);
                due.is("14 of 31 bits", draw >= 0 && draw <= MOST ? 1 : 0, 1);
            }
        }
        // 0 becomes 12345, and the first at all is of 1
        BorderForge y = Due.on("100;p0/0");
        y.drift(1);
        due.is("14 1 at first", y.seed(0), 1103527590);
        y.undo();
        y.seed(0);
        y.drift(1);
        due.is("14 of nothing", y.seed(0), 12345);
    }

    private static void onlyADriftDraws() {
        BorderForge x = Due.on("100,100;p0/5,s0/5");
        x.seed(9);
        x.ride(2);
        x.wheel(0);
        x.give(0, 1, 1);
        x.first();
        x.luck(0, 5, 0);
        due.is("14 nothing else draws", x.seed(9), 9);
        x.drift(1);
        due.is("14 a drift does", x.seed(9), next(9));
    }

    private static void undoEightAreKnown() {
        for (int done = 1; done <= 12; done++) {
            BorderForge x = eightTimesFour();
            x.ride(done);
            int known = Math.min(8, done);
            due.is("15 known of " + done, x.count(7), known);
            for (int left = known - 1; left >= 0; left--) {
                due.is("15 how many more", x.undo(), left);
                due.is("15 so many are known", x.count(7), left);
                due.is("15 one stage back", ridden(x), done - known + left);
            }
            due.is("15 none is known, older ones are lost", x.undo(), NONE);
            due.is("15 where it went back to", ridden(x), done - known);
        }
    }

    private static void undoEachKind() {
        BorderForge x = Due.on("112;p0/9:0,p1/9");
        x.ride(1);
        due.is("15 ridden", x.at(0, 2), 6);
        x.undo();
        int[] before = {0, 0, 0, 9, 1};
        for (int what = 0; what < before.length; what++) {
            due.is("15 a stage undone: at " + what, x.at(0, what), before[what]);
        }
        due.is("15 a stage undone: best horses", x.of(0, 2), 2);
        x.wheel(1);
        x.undo();
        due.is("15 a wheel undone", x.at(1, 2), 1);
        x.give(1, 0, 9);
        x.undo();
        due.is("15 coins given undone: who gave", x.at(1, 3), 9);
        due.is("15 coins given undone: who took", x.at(0, 3), 9);
        x.seed(3);
        x.drift(2);
        due.is("15 each stage of a drift is one", x.undo(), 1);
        due.is("15 the draw behind the first", x.seed(1), next(3));
        due.is("15 the other", x.undo(), 0);
        due.is("15 the draw ahead of both", x.seed(1), 3);
        due.is("15 where all are", ridden(x), 0);
    }

    private static void undoWhateverWasToldSince() {
        BorderForge x = Due.on("502;p0/9:0");
        x.ride(1);
        x.price(9);
        x.buys(0, 0);
        x.seed(5);
        x.image();
        x.sheet(0, 0, 3);
        x.type('x');
        due.is("15 what is told since leaves it", x.count(7), 1);
        due.is("15 undone", x.undo(), 0);
        due.is("15 coins", x.at(0, 3), 9);
        due.is("15 minute", x.at(0, 2), 0);
        due.is("15 best horses", x.of(0, 2), 2);
        due.is("15 price is none of it", x.count(2), 9);
        due.is("15 where it buys is none of it", x.at(0, 4), 0);
        due.is("15 sheets are none of it", x.drop(0), 3);
        due.is("15 the tape is none of it", x.type('x'), 2);
        due.is("15 the draw", x.seed(1), 1);
    }

    private static void undoTheDraw() {
        // as ahead of it, for each of the three, drift or not
        BorderForge x = Due.on("100,100;p0/5,p0/5");
        x.seed(11);
        x.ride(1);
        x.seed(22);
        x.wheel(0);
        x.seed(33);
        x.give(0, 1, 1);
        x.seed(44);
        x.undo();
        due.is("15 the draw ahead of coins given", x.seed(55), 33);
        x.undo();
        due.is("15 the draw ahead of a wheel off", x.seed(66), 22);
        x.undo();
        due.is("15 the draw ahead of a stage ridden", x.seed(77), 11);
        due.is("15 none is known", x.undo(), NONE);
        due.is("15 so the draw stays", x.seed(1), 77);
    }

    private static void undoNone() {
        edge.same("15 none is known", Edge::empty, NONE, x -> x.undo());
        edge.same("15 none is known yet", EdgeDoneTest::eightTimesFour, NONE, x -> x.undo());
        edge.taken("15 eight are known", Edge::midway, 7, x -> x.undo());
        edge.taken("15 one is known", Edge::brim, 0, x -> x.undo());
    }

    /** Done and undone over and over, more than eight times round: each is as it was. */
    private static void undoTheRingGoesRound() {
        BorderForge x = eightTimesFour();
        int depth = 0;
        int[] minutes = new int[100];
        for (int k = 0; k < 60; k++) {
            if (k % 5 == 3 && depth > 0) {
                x.undo();
                depth--;
                due.is("15 round and round " + k, x.at(0, 2), minutes[depth]);
            } else {
                minutes[depth] = x.at(0, 2);
                due.is("15 a wheel", x.wheel(0), minutes[depth] + 30);
                depth++;
            }
        }
        for (int k = 0; k < 8; k++) {
            due.is("15 at last", x.undo(), 7 - k);
            depth--;
            due.is("15 at last", x.at(0, 2), minutes[depth]);
        }
        due.is("15 at last none", x.undo(), NONE);
    }

    private static void newOnesLeaveNothing() {
        Edge.Call[] calls = {
            x -> x.stage(1, 0, 0), x -> x.rider(0, 0, 0), x -> Due.road(x, "1,100;p0/0"),
        };
        for (int k = 0; k < calls.length; k++) {
            BorderForge x = Edge.midway();
            due.is("15 taken", calls[k].on(x) >= 0 ? 1 : 0, 1);
            due.is("15 nothing is left to be undone by " + k, x.count(7), 0);
            due.is("15 none is known by " + k, x.undo(), NONE);
            x.wheel(0);
            due.is("15 what is done since", x.undo(), 0);
            due.is("15 and no more", x.undo(), NONE);
        }
    }

    private static void refusedOnesLeaveIt() {
        edge.same("15 refused stages leave it", Edge::midway, BAD, x -> x.stage(0, 0, 0), x -> x.rider(5, 0, 0));
        edge.same("15 full ones leave it", Edge::brim, Edge.FULL, x -> x.stage(1, 0, 0), x -> x.rider(0, 0, 0));
        BorderForge x = Edge.midway();
        due.is("15 a fault leaves it", x.road(), -22);
        due.is("15 eight are known", x.count(7), 8);
    }

    private static void seed() {
        edge.taken("16 the least, the most", Edge::midway, 1589938195, x -> x.seed(0), x -> x.seed(MOST));
        edge.same("16 as it was", Edge::midway, 1589938195, x -> x.seed(1589938195));
        edge.same("16 below 0", Edge::midway, BAD, x -> x.seed(-1), x -> x.seed(LEAST), x -> x.seed(LEAST + 1));
        BorderForge x = new BorderForge();
        due.is("16 1 at first", x.seed(MOST), 1);
        due.is("16 the most", x.seed(0), MOST);
        due.is("16 the least", x.seed(2), 0);
    }
}
