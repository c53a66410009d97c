/** Promises 1 to 7 and 10: a new object, stages, riders, what is told of them. */
public final class RoadTest {
    private static final Due due = new Due("RoadTest");

    public static void main(String[] args) {
        aNewObject();
        stages();
        riders();
        of();
        at();
        oneThereOneNot();
        buys();
        price();
        count();
        due.end();
    }

    private static void aNewObject() {
        BorderForge x = new BorderForge();
        due.is("1 stages", x.count(0), 0);
        due.is("1 riders", x.count(1), 0);
        due.is("1 price", x.count(2), 3);
        due.is("1 who is there", x.count(3), 0);
        due.is("1 who rides", x.count(4), BorderForge.NONE);
        due.is("1 coins", x.count(5), 0);
        due.is("1 horses", x.count(6), 0);
        due.is("1 may be undone", x.count(7), 0);
        due.is("1 the draw", x.seed(0), 1);
        due.is("1 no rider", x.at(0, 0), BorderForge.BAD);
        due.is("1 no stage", x.of(0, 0), BorderForge.BAD);
        due.is("1 nobody first", x.first(), BorderForge.NONE);
        due.is("1 no image", x.restore(), BorderForge.NONE);
        for (int s = 0; s < 4; s++) {
            due.is("1 sheet " + s, x.drop(s), BorderForge.NULL);
        }
        due.is("1 the tape is empty", x.type('p'), 1);
    }

    private static void stages() {
        BorderForge x = new BorderForge();
        due.all("2 wrong", BorderForge.BAD,
                x.stage(0, 0, 0), x.stage(10, 0, 0), x.stage(1, -1, 0), x.stage(1, 10, 0),
                x.stage(1, 0, -1), x.stage(1, 0, 5), x.stage(Integer.MIN_VALUE, 0, 0), x.stage(1, 0, Integer.MAX_VALUE));
        due.is("2 wrong ones are none", x.count(0), 0);
        due.is("2 least", x.stage(1, 0, 0), 0);
        due.is("2 most", x.stage(9, 9, 4), 1);
        for (int s = 2; s < 8; s++) {
            due.is("2 stage " + s, x.stage(s, s, s % 5), s);
        }
        due.is("2 full", x.stage(1, 0, 0), BorderForge.FULL);
        due.is("2 wrong ahead of full", x.stage(0, 0, 0), BorderForge.BAD);
        due.is("2 eight", x.count(0), 8);

        BorderForge y = Due.on("100;p0/5");
        y.ride(1);
        due.is("2 at the forge", y.count(3), 1);
        due.is("2 a new stage", y.stage(2, 0, 0), 1);
        due.is("2 no more at the forge", y.count(3), 0);
        due.is("2 nothing to be undone", y.undo(), BorderForge.NONE);
        y.ride(1);
        y.stage(0, 0, 0);
        due.is("2 a refused one leaves it", y.count(7), 1);
    }

    private static void riders() {
        BorderForge x = Due.on("500;p0/5");
        due.all("3 wrong", BorderForge.BAD,
                x.rider(-1, 0, 0), x.rider(5, 0, 0), x.rider(0, -1, 0), x.rider(0, 1000, 0),
                x.rider(0, 0, -1), x.rider(0, 0, 100), x.rider(Integer.MAX_VALUE, 0, 0));
        x.ride(1);
        due.is("3 one may be undone", x.count(7), 1);
        due.is("3 a wrong rider", x.rider(5, 0, 0), BorderForge.BAD);
        due.is("3 leaves it", x.count(7), 1);
        due.is("3 most", x.rider(4, 999, 99), 1);
        due.is("3 nothing to be undone", x.count(7), 0);
        due.is("3 least", x.rider(0, 0, 0), 2);
        due.is("3 a third", x.rider(3, 7, 8), 3);
        due.is("3 full", x.rider(0, 0, 0), BorderForge.FULL);
        due.is("3 wrong ahead of full", x.rider(0, 0, 100), BorderForge.BAD);
        int[] told = {4, 0, 999, 99, 0};
        for (int what = 0; what < told.length; what++) {
            due.is("3 told of it " + what, x.at(1, what), told[what]);
        }
    }

    private static void of() {
        BorderForge x = Due.on("123,904;p0/50:01");
        int[][] told = {{1, 2, 3}, {9, 0, 4}};
        for (int s = 0; s < 2; s++) {
            for (int what = 0; what < 3; what++) {
                due.is("4 of " + s + ", " + what, x.of(s, what), told[s][what]);
            }
        }
        due.all("4 wrong", BorderForge.BAD,
                x.of(-1, 0), x.of(2, 0), x.of(0, -1), x.of(0, 3), x.of(Integer.MAX_VALUE, 0), x.of(0, Integer.MIN_VALUE));
        x.ride(1);
        due.is("4 one taken", x.of(0, 2), 2);
        due.is("4 none taken there", x.of(1, 2), 4);
        due.is("4 miles stay", x.of(0, 0), 1);
        due.is("4 toll stays", x.of(0, 1), 2);
    }

    private static void at() {
        // of 1, of 4, of 9 miles: on best horses, else
        int[][] one = {{6, 10}, {11, 15}, {9, 15}, {6, 15}, {5, 5}};
        int[][] four = {{24, 40}, {29, 45}, {36, 60}, {24, 60}, {23, 35}};
        int[][] nine = {{54, 90}, {59, 95}, {81, 135}, {54, 135}, {53, 85}};
        for (int kind = 0; kind < 5; kind++) {
            BorderForge x = new BorderForge();
            x.rider(kind, 3, 4);
            due.is("5 no road: best", x.at(0, 5), BorderForge.NONE);
            due.is("5 no road: else", x.at(0, 6), BorderForge.NONE);
            x.stage(1, 0, 0);
            x.stage(4, 0, 0);
            x.stage(9, 0, 0);
            x.buys(0, 5);
            int[][][] all = {one, four, nine};
            int minute = 3;
            for (int s = 0; s < 3; s++) {
                due.is("5 kind", x.at(0, 0), kind);
                due.is("5 stage", x.at(0, 1), s);
                due.is("5 minute", x.at(0, 2), minute);
                due.is("5 coins", x.at(0, 3), 4);
                due.is("5 buys", x.at(0, 4), 5);
                due.is("5 best of " + kind + " at " + s, x.at(0, 5), all[s][kind][0]);
                due.is("5 else of " + kind + " at " + s, x.at(0, 6), all[s][kind][1]);
                x.ride(1);
                minute += all[s][kind][1];
            }
            due.is("5 at the forge", x.at(0, 1), 3);
            due.is("5 minute there", x.at(0, 2), minute);
            due.is("5 best there", x.at(0, 5), BorderForge.NONE);
            due.is("5 else there", x.at(0, 6), BorderForge.NONE);
            due.all("5 wrong", BorderForge.BAD,
                    x.at(-1, 0), x.at(1, 0), x.at(0, -1), x.at(0, 7), x.at(1, 5), x.at(Integer.MIN_VALUE, 9));
        }
    }

    private static void oneThereOneNot() {
        BorderForge x = Due.on("500,300,200;p0/9,o90/9");
        x.ride(3);
        due.all("5 the first is at the forge", BorderForge.NONE, x.at(0, 5), x.at(0, 6));
        due.is("5 the second is not, on best horses", x.at(1, 5), 45);
        due.is("5 the second is not, else", x.at(1, 6), 75);
        BorderForge y = Due.on("500,300,200;o90/9,p0/9");
        y.ride(3);
        due.all("5 the second is at the forge", BorderForge.NONE, y.at(1, 5), y.at(1, 6));
        due.is("5 the first is not, on best horses", y.at(0, 5), 45);
        due.is("5 the first is not, else", y.at(0, 6), 75);
    }

    private static void buys() {
        BorderForge x = Due.on("500,500,500;p0/5:02,s0/5");
        due.is("6 where it did", x.buys(0, 7), 5);
        due.is("6 then", x.buys(0, 0), 7);
        due.is("6 none", x.at(0, 4), 0);
        due.is("6 the other one", x.buys(1, 4), 0);
        due.all("6 wrong", BorderForge.BAD,
                x.buys(1, 8), x.buys(1, -1), x.buys(2, 0), x.buys(-1, 0), x.buys(1, Integer.MIN_VALUE), x.buys(1, 256));
        due.is("6 wrong ones change nothing", x.at(1, 4), 4);
        x.stage(1, 0, 0);
        due.is("6 of a new stage", x.buys(1, 15), 4);

        BorderForge y = new BorderForge();
        y.rider(0, 0, 0);
        due.is("6 no stages: none", y.buys(0, 0), 0);
        due.is("6 no stages: one", y.buys(0, 1), BorderForge.BAD);
        for (int s = 0; s < 8; s++) {
            y.stage(1, 0, 0);
        }
        due.is("6 all eight", y.buys(0, 255), 0);
        due.is("6 all eight told", y.at(0, 4), 255);
    }

    private static void price() {
        BorderForge x = Due.on("502;p0/9:0,p0/8:0");
        due.is("7 at first", x.price(9), 3);
        due.is("7 then", x.count(2), 9);
        due.all("7 wrong", BorderForge.BAD, x.price(0), x.price(10), x.price(-1), x.price(Integer.MAX_VALUE));
        due.is("7 wrong ones change nothing", x.count(2), 9);
        x.ride(2);
        due.is("7 has it just: pays", x.at(0, 3), 0);
        due.is("7 has it just: is fast", x.at(0, 2), 30);
        due.is("7 has one less: pays nothing", x.at(1, 3), 8);
        due.is("7 has one less: is slow", x.at(1, 2), 50);
        due.is("7 the least", x.price(1), 9);
        due.is("7 the least told", x.price(1), 1);
    }

    private static void count() {
        BorderForge x = Due.on("104,202;p5/10:0,s5/20,o4/30");
        int[] before = {2, 3, 3, 0, 2, 60, 6, 0};
        for (int what = 0; what < before.length; what++) {
            due.is("10 before " + what, x.count(what), before[what]);
        }
        // o is at 19, p at 11 then 31, s at 20 then 45
        x.ride(4);
        int[] then = {2, 3, 3, 1, 2, 57, 5, 4};
        for (int what = 0; what < then.length; what++) {
            due.is("10 then " + what, x.count(what), then[what]);
        }
        x.ride(32);
        due.is("10 all are there", x.count(3), 7);
        due.is("10 nobody rides", x.count(4), BorderForge.NONE);
        due.all("10 wrong", BorderForge.BAD, x.count(-1), x.count(8), x.count(Integer.MAX_VALUE), x.count(Integer.MIN_VALUE));
    }
}
