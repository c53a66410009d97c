/** Promises 11 to 16: what is done, and undone. */
public final class RideTest {
    private static final Due due = new Due("RideTest");

    public static void main(String[] args) {
        ride();
        order();
        tolls();
        horsesRunOut();
        wheel();
        give();
        drift();
        undo();
        undoneWhateverWasTold();
        horsesOfEachStageAreBack();
        seed();
        due.end();
    }

    private static void ride() {
        BorderForge x = Due.on("100,100,100,100,100,100,100,100;p0/0,p0/0,p0/0,p0/0");
        due.all("11 wrong", BorderForge.BAD, x.ride(0), x.ride(33), x.ride(-1), x.ride(Integer.MAX_VALUE));
        due.is("11 wrong ones ride nothing", x.count(7), 0);
        due.is("11 one", x.ride(1), 1);
        due.is("11 till all are there", x.ride(32), 31);
        due.is("11 all are there", x.ride(1), BorderForge.NOT);
        due.is("11 wrong ahead of it", x.ride(0), BorderForge.BAD);
        BorderForge y = new BorderForge();
        due.is("11 nobody", y.ride(1), BorderForge.NOT);
        y.stage(1, 0, 0);
        due.is("11 nobody on a road", y.ride(1), BorderForge.NOT);
        BorderForge z = Due.on("100,100,100,100,100,100,100,100;p0/0,p0/0,p0/0,p0/0");
        due.is("11 all of them at once", z.ride(32), 32);
    }

    private static void order() {
        // whoever is in the least minute rides, of like ones the lesser number
        BorderForge x = Due.on("100,200;p5/0,p0/0,p0/0");
        int[] who = {1, 2, 0, 1, 2, 0};
        for (int k = 0; k < who.length; k++) {
            due.is("11 who rides " + k, x.count(4), who[k]);
            int before = x.at(who[k], 1);
            x.ride(1);
            due.is("11 one stage more " + k, x.at(who[k], 1), before + 1);
        }
        due.is("11 nobody more", x.count(4), BorderForge.NONE);
        due.is("11 minute", x.at(0, 2), 35);
        due.is("11 minute", x.at(2, 2), 30);
    }

    private static void tolls() {
        BorderForge x = Due.on("150,160,141;p0/10:2");
        x.ride(1);
        due.is("11 toll paid", x.at(0, 3), 5);
        due.is("11 no wait", x.at(0, 2), 10);
        x.ride(1);
        due.is("11 it has less: nothing paid", x.at(0, 3), 5);
        due.is("11 it has less: waits", x.at(0, 2), 30);
        x.ride(1);
        due.is("11 price is paid ahead of toll", x.at(0, 3), 2);
        due.is("11 so it waits, on best horses", x.at(0, 2), 46);
        BorderForge y = Due.on("150;p0/5");
        y.ride(1);
        due.is("11 just as much as the toll", y.at(0, 3), 0);
        due.is("11 just as much: no wait", y.at(0, 2), 10);
    }

    private static void horsesRunOut() {
        BorderForge x = Due.on("502;p0/9:0,p0/9,p0/2:0,p0/9:0");
        x.ride(4);
        due.is("11 best horses", x.at(0, 2), 30);
        due.is("11 it does not buy", x.at(1, 2), 50);
        due.is("11 it has not the price", x.at(2, 2), 50);
        due.is("11 the last ones", x.at(3, 2), 30);
        due.is("11 none left", x.of(0, 2), 0);
        BorderForge y = Due.on("501;p0/9:0,p0/9:0");
        y.ride(2);
        due.is("11 they ran out: slow", y.at(1, 2), 50);
        due.is("11 they ran out: nothing paid", y.at(1, 3), 9);
    }

    private static void wheel() {
        BorderForge x = Due.on("100;p999/0,s0/0");
        due.is("12 thirty more", x.wheel(0), 1029);
        due.is("12 once more", x.wheel(0), 1059);
        due.is("12 the other one stays", x.at(1, 2), 0);
        due.all("12 wrong", BorderForge.BAD, x.wheel(2), x.wheel(-1), x.wheel(Integer.MAX_VALUE));
        due.is("12 two may be undone", x.count(7), 2);
        x.ride(1);
        due.is("12 at the forge", x.wheel(1), BorderForge.NOT);
        due.is("12 refused: not to be undone", x.count(7), 3);
        due.is("12 the stage", x.undo(), 2);
        due.is("12 the wheel", x.undo(), 1);
        due.is("12 undone", x.at(0, 2), 1029);
    }

    private static void give() {
        BorderForge x = Due.on("100;p0/50,s0/60,o0/99");
        due.is("13 given", x.give(0, 1, 20), 80);
        due.is("13 had", x.at(0, 3), 30);
        due.is("13 the rest is lost", x.give(0, 1, 30), 99);
        due.is("13 none left", x.at(0, 3), 0);
        due.is("13 it has not one", x.give(0, 1, 1), BorderForge.NOT);
        due.is("13 all of them", x.give(2, 0, 99), 99);
        due.all("13 wrong", BorderForge.BAD,
                x.give(0, 0, 1), x.give(0, 3, 1), x.give(3, 0, 1), x.give(-1, 0, 1), x.give(0, -1, 1),
                x.give(0, 1, 0), x.give(0, 1, 100), x.give(0, 1, -5));
        due.is("13 wrong ahead of too few", x.give(2, 2, 50), BorderForge.BAD);
        due.is("13 refused: not to be undone", x.count(7), 3);
        x.ride(3);
        due.is("13 at the forge", x.give(0, 2, 9), 9);
        due.is("13 undone", x.undo(), 6);
        due.is("13 as it had not been: one", x.at(0, 3), 99);
        due.is("13 as it had not been: the other", x.at(2, 3), 0);
    }

    /** What the draw is, by the document's words, with wide numbers. */
    private static long nextDraw(long draw) {
        return (draw * 1103515245L + 12345L) % 2147483648L;
    }

    private static void drift() {
        BorderForge x = Due.on("100,200,300,400;p0/0,s3/0");
        due.all("14 wrong", BorderForge.BAD, x.drift(0), x.drift(33), x.drift(-1), x.drift(Integer.MIN_VALUE));
        due.is("14 wrong ones draw nothing", x.seed(1), 1);
        int wheels = 0;
        for (int seed = 0; seed < 40; seed++) {
            BorderForge y = Due.on("100,200,300,400;p0/0,s3/0");
            y.seed(seed);
            long draw = seed;
            int off = 0;
            BorderForge twin = Due.on("100,200,300,400;p0/0,s3/0");
            for (int k = 0; k < 5; k++) {
                draw = nextDraw(draw);
                int who = twin.count(4);
                twin.ride(1);
                if (draw / 65536 % 6 == 0) {
                    off++;
                    if (twin.wheel(who) < 0) {
                        twin = null;
                        break;
                    }
                }
            }
            due.is("14 wheels off by " + seed, y.drift(5), off);
            wheels += off;
            if (twin != null) {
                due.is("14 minute of 0 by " + seed, y.at(0, 2), twin.at(0, 2));
                due.is("14 minute of 1 by " + seed, y.at(1, 2), twin.at(1, 2));
                due.is("14 stage of 0 by " + seed, y.at(0, 1), twin.at(0, 1));
            }
            due.is("14 five may be undone", y.count(7), 5);
            due.is("14 the draw by " + seed, y.seed(9), draw);
        }
        due.is("14 there were some", wheels > 10 ? 1 : 0, 1);

        BorderForge z = Due.on("100,200;p0/0");
        z.seed(Integer.MAX_VALUE);
        z.drift(32);
        due.is("14 it draws no more than it rides", z.seed(0), nextDraw(nextDraw(Integer.MAX_VALUE)));
        due.is("14 all are there", z.drift(1), BorderForge.NOT);
        due.is("14 wrong ahead of it", z.drift(33), BorderForge.BAD);
        due.is("14 refused: nothing drawn", z.seed(0), 0);
        due.is("14 nobody", new BorderForge().drift(1), BorderForge.NOT);
        BorderForge w = Due.on("100,200;p0/0");
        w.seed(5);
        w.ride(2);
        due.is("14 what is just ridden draws nothing", w.seed(5), 5);
    }

    private static void undo() {
        BorderForge x = Due.on("523,302,710,431,901,200;p0/14:024,o5/30:13");
        due.is("15 none is known", x.undo(), BorderForge.NONE);
        long[] told = new long[13];
        told[0] = all(x);
        for (int k = 1; k <= 12; k++) {
            if (k % 4 == 0) {
                x.wheel(1);
            } else if (k % 4 == 1) {
                x.give(1, 0, 2);
            } else if (k % 4 == 2) {
                x.drift(1);
            } else {
                x.ride(1);
            }
            told[k] = all(x);
        }
        due.is("15 eight are known", x.count(7), 8);
        for (int k = 11; k >= 4; k--) {
            due.is("15 how many more", x.undo(), k - 4);
            due.is("15 as it was at " + k, all(x), told[k]);
            due.is("15 may be undone", x.count(7), k - 4);
        }
        due.is("15 older ones are lost", x.undo(), BorderForge.NONE);
        due.is("15 and nothing is changed", all(x), told[4]);
        x.ride(3);
        due.is("15 anew", x.count(7), 3);
    }

    /** All that is undone, in one number; the draw is taken out and put back. */
    private static long all(BorderForge x) {
        long sum = 17;
        for (int r = 0; r < 2; r++) {
            for (int what = 1; what < 4; what++) {
                sum = sum * 1000003 + x.at(r, what);
            }
        }
        for (int s = 0; s < 6; s++) {
            sum = sum * 1000003 + x.of(s, 2);
        }
        int draw = x.seed(0);
        x.seed(draw);
        return sum * 1000003 + draw;
    }

    private static void undoneWhateverWasTold() {
        BorderForge x = Due.on("502,402;p0/9:0,s9/8");
        x.seed(3);
        x.drift(1);
        x.seed(99);
        x.price(7);
        x.buys(0, 2);
        due.is("15 undone", x.undo(), 0);
        due.is("15 the draw is as ahead of it", x.seed(3), 3);
        due.is("15 the price is as told since", x.count(2), 7);
        due.is("15 where it buys, too", x.at(0, 4), 2);
        due.is("15 horses are back", x.of(0, 2), 2);
        due.is("15 coins are back", x.at(0, 3), 9);
        due.is("15 the minute is back", x.at(0, 2), 0);
        due.is("15 the stage is back", x.at(0, 1), 0);
        // each stage of several is one
        x.ride(3);
        due.is("15 three", x.undo(), 2);
        due.is("15 just the last", x.at(0, 1) + x.at(1, 1), 2);
    }

    private static void horsesOfEachStageAreBack() {
        BorderForge x = Due.on("101,102,103,104,101,102,103,104;p0/24:01234567");
        due.is("11 all eight", x.ride(8), 8);
        for (int s = 0; s < 8; s++) {
            due.is("11 one taken at " + s, x.of(s, 2), s % 4);
        }
        for (int s = 7; s >= 0; s--) {
            due.is("15 how many more", x.undo(), s);
            due.is("15 the horses of " + s + " are back", x.of(s, 2), s % 4 + 1);
            due.is("15 the horses of all", x.count(6), 20 - s);
            due.is("15 coins", x.at(0, 3), 24 - 3 * s);
        }
    }

    private static void seed() {
        BorderForge x = new BorderForge();
        due.is("16 at first", x.seed(Integer.MAX_VALUE), 1);
        due.all("16 wrong", BorderForge.BAD, x.seed(-1), x.seed(Integer.MIN_VALUE));
        due.is("16 what it was", x.seed(0), Integer.MAX_VALUE);
        due.is("16 what it was", x.seed(5), 0);
    }
}
