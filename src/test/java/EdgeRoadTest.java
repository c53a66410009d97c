/** The edges of part 1 (THE ROAD) and of promises 1 to 7 and 10: each sentence that names one. */
public final class EdgeRoadTest {
    private static final int BAD = Edge.BAD, NOT = Edge.NOT, FULL = Edge.FULL, NONE = Edge.NONE;
    private static final int LEAST = Edge.LEAST, MOST = Edge.MOST;

    private static final Due due = new Due("EdgeRoadTest");
    private static final Edge edge = new Edge(due);

    public static void main(String[] args) {
        aNewObjectHasNoRoad();
        aNewObjectHasNobody();
        stagesAreEight();
        miles();
        tolls();
        bestHorses();
        bestHorsesAreForSoManyRiders();
        ridersAreFour();
        kinds();
        starts();
        coins();
        ridersAtFirst();
        theForgeLiesBehindAllStages();
        aStageTakesOneByKindAndMiles();
        theLeastMinuteRides();
        ofLikeOnesTheLesserNumber();
        whoIsAtTheForgeRidesNoMore();
        buyingTakesTheSet();
        buyingTakesHorsesLeft();
        buyingTakesPriceAtLeast();
        tollOrTenMinutes();
        priceIsPaidAheadOfToll();
        of();
        at();
        atTheForge();
        buys();
        buysOfEachLengthOfRoad();
        price();
        count();
        countAtFirstAndLast();
        due.end();
    }

    private static void aNewObjectHasNoRoad() {
        edge.same("1 no stage", Edge::empty, BAD, x -> x.of(0, 0), x -> x.of(7, 2));
        edge.same("1 no stages", Edge::empty, 0, x -> x.count(0), x -> x.count(6), x -> x.count(7));
        edge.same("1 no image", Edge::empty, NONE, x -> x.restore());
        edge.same("1 price is 3 at first", Edge::empty, 3, x -> x.count(2), x -> x.price(3));
        edge.same("1 the draw is 1 at first", Edge::empty, 1, x -> x.seed(1));
    }

    private static void aNewObjectHasNobody() {
        edge.same("1 no riders", Edge::empty, 0, x -> x.count(1), x -> x.count(3), x -> x.count(5));
        edge.same("1 nobody rides", Edge::empty, NONE, x -> x.count(4), x -> x.first());
        edge.same("1 nobody to ride", Edge::empty, NOT, x -> x.ride(1), x -> x.drift(1));
        edge.same("1 nobody to ask of", Edge::empty, BAD,
                x -> x.at(0, 0), x -> x.buys(0, 0), x -> x.wheel(0), x -> x.give(0, 1, 1), x -> x.ahead(0, 0),
                x -> x.comes(0, 0), x -> x.caught(0, 1), x -> x.best(0, 0), x -> x.earlier(0, 1), x -> x.purse(0, 0),
                x -> x.loosened(0, 0), x -> x.duel(0, 1, 0), x -> x.luck(0, 0, 0), x -> x.passed(0, 0, 0, 0, 1),
                x -> x.film(0, 1, 0, 0, 0));
    }

    private static void stagesAreEight() {
        BorderForge x = new BorderForge();
        for (int s = 0; s < 8; s++) {
            due.is("2 stages 0 .. 7, as they come", x.stage(1, 0, 0), s);
            due.is("2 so many", x.count(0), s + 1);
        }
        due.is("2 the ninth", x.stage(1, 0, 0), FULL);
        due.is("2 still eight", x.count(0), 8);
        edge.same("2 FULL: 8", Edge::brim, FULL, y -> y.stage(1, 0, 0), y -> y.stage(9, 9, 4));
        edge.taken("2 one more behind five", Edge::midway, 5, y -> y.stage(1, 0, 0));
    }

    private static void miles() {
        for (int m = 1; m <= 9; m++) {
            BorderForge x = new BorderForge();
            due.is("2 miles 1 .. 9", x.stage(m, 2, 3), 0);
            due.is("2 miles told", x.of(0, 0), m);
        }
        edge.taken("2 miles: the least and the most", Edge::midway, 5, x -> x.stage(1, 0, 0), x -> x.stage(9, 0, 0));
        edge.same("2 miles: below 1, above 9", Edge::midway, BAD,
                x -> x.stage(0, 0, 0), x -> x.stage(-1, 0, 0), x -> x.stage(LEAST, 0, 0), x -> x.stage(10, 0, 0),
                x -> x.stage(MOST, 0, 0));
    }

    private static void tolls() {
        for (int toll = 0; toll <= 9; toll++) {
            BorderForge x = new BorderForge();
            due.is("2 toll 0 .. 9", x.stage(3, toll, 2), 0);
            due.is("2 toll told", x.of(0, 1), toll);
        }
        edge.same("2 toll: below 0, above 9", Edge::midway, BAD,
                x -> x.stage(1, -1, 0), x -> x.stage(1, LEAST, 0), x -> x.stage(1, 10, 0), x -> x.stage(1, MOST, 0));
    }

    private static void bestHorses() {
        for (int horses = 0; horses <= 4; horses++) {
            BorderForge x = new BorderForge();
            due.is("2 best horses 0 .. 4", x.stage(3, 1, horses), 0);
            due.is("2 best horses told", x.of(0, 2), horses);
        }
        edge.same("2 best horses: below 0, above 4", Edge::midway, BAD,
                x -> x.stage(1, 0, -1), x -> x.stage(1, 0, LEAST), x -> x.stage(1, 0, 5), x -> x.stage(1, 0, MOST));
    }

    private static void bestHorsesAreForSoManyRiders() {
        for (int horses = 0; horses <= 4; horses++) {
            BorderForge x = Due.on("10" + horses + ";p0/9:0,p0/9:0,p0/9:0,p0/9:0");
            x.ride(4);
            for (int r = 0; r < 4; r++) {
                due.is("1 for so many riders: minute of " + r, x.at(r, 2), r < horses ? 6 : 10);
                due.is("1 for so many riders: coins of " + r, x.at(r, 3), r < horses ? 6 : 9);
            }
            due.is("1 none are left", x.of(0, 2), 0);
        }
    }

    private static void ridersAreFour() {
        BorderForge x = new BorderForge();
        for (int r = 0; r < 4; r++) {
            due.is("3 riders 0 .. 3, as they come", x.rider(0, 0, 0), r);
            due.is("3 so many", x.count(1), r + 1);
        }
        due.is("3 the fifth", x.rider(0, 0, 0), FULL);
        due.is("3 still four", x.count(1), 4);
        edge.same("3 FULL: 4", Edge::brim, FULL, y -> y.rider(0, 0, 0), y -> y.rider(4, 999, 99));
        edge.taken("3 one more behind three", Edge::midway, 3, y -> y.rider(0, 0, 0));
    }

    private static void kinds() {
        for (int kind = 0; kind <= 4; kind++) {
            BorderForge x = new BorderForge();
            due.is("3 kinds 0 .. 4", x.rider(kind, 5, 6), 0);
            due.is("3 kind told", x.at(0, 0), kind);
        }
        edge.same("3 kinds: below 0, above 4", Edge::midway, BAD,
                x -> x.rider(-1, 0, 0), x -> x.rider(LEAST, 0, 0), x -> x.rider(5, 0, 0), x -> x.rider(MOST, 0, 0));
    }

    private static void starts() {
        for (int start : new int[] {0, 1, 998, 999}) {
            BorderForge x = new BorderForge();
            due.is("3 starts 0 .. 999", x.rider(1, start, 6), 0);
            due.is("3 start told", x.at(0, 2), start);
        }
        edge.same("3 starts: below 0, above 999", Edge::midway, BAD,
                x -> x.rider(0, -1, 0), x -> x.rider(0, LEAST, 0), x -> x.rider(0, 1000, 0), x -> x.rider(0, MOST, 0));
    }

    private static void coins() {
        for (int coins : new int[] {0, 1, 98, 99}) {
            BorderForge x = new BorderForge();
            due.is("3 coins 0 .. 99", x.rider(1, 5, coins), 0);
            due.is("3 coins told", x.at(0, 3), coins);
        }
        edge.same("3 coins: below 0, above 99", Edge::midway, BAD,
                x -> x.rider(0, 0, -1), x -> x.rider(0, 0, LEAST), x -> x.rider(0, 0, 100), x -> x.rider(0, 0, MOST));
    }

    private static void ridersAtFirst() {
        BorderForge x = Edge.midway();
        x.rider(3, 44, 55);
        due.is("3 at a stage: 0 at first, though others are ahead", x.at(3, 1), 0);
        due.is("3 in a minute: its start at first", x.at(3, 2), 44);
        due.is("3 it buys nowhere at first", x.at(3, 4), 0);
        due.is("3 nothing is left to be undone", x.count(7), 0);
        due.is("3 nothing is left to be undone", x.undo(), NONE);
        // as in a place where another one was, ahead of a road
        BorderForge y = Due.on("100,100;p9/9:01,s8/8:01");
        y.ride(4);
        Due.road(y, "100,100;p9/9");
        y.rider(2, 7, 6);
        due.is("3 at stage 0, where one had ridden on", y.at(1, 1), 0);
        due.is("3 it buys nowhere, where one had bought", y.at(1, 4), 0);
    }

    private static void theForgeLiesBehindAllStages() {
        BorderForge x = new BorderForge();
        x.rider(0, 5, 0);
        due.is("1 no stages: at the forge at once", x.count(3), 1);
        due.is("1 no stages: nobody rides", x.count(4), NONE);
        x.stage(1, 0, 0);
        due.is("1 one stage: no more at the forge", x.count(3), 0);
        due.is("1 one stage: it rides", x.count(4), 0);
        x.ride(1);
        due.is("1 one of one behind it: at the forge", x.count(3), 1);
        due.is("1 the stage is how many lie behind it", x.at(0, 1), 1);
        x.stage(2, 0, 0);
        due.is("1 one of two behind it: not there", x.count(3), 0);
        due.is("1 its new stage", x.at(0, 6), 20);
    }

    private static void aStageTakesOneByKindAndMiles() {
        for (int miles = 1; miles <= 9; miles++) {
            int best = 6 * miles;
            int slow = 10 * miles;
            int[] onBest = {best, best + 5, best + best / 2, best, best - 6 + 5};
            int[] else1 = {slow, slow + 5, slow + slow / 2, slow + slow / 2, slow - 10 + 5};
            for (int kind = 0; kind < 5; kind++) {
                BorderForge x = new BorderForge();
                x.stage(miles, 0, 1);
                x.rider(kind, 0, 9);
                due.is("1 on best horses: kind " + kind + ", miles " + miles, x.at(0, 5), onBest[kind]);
                due.is("1 else: kind " + kind + ", miles " + miles, x.at(0, 6), else1[kind]);
                x.ride(1);
                due.is("1 ridden else", x.at(0, 2), else1[kind]);
                x.undo();
                x.buys(0, 1);
                x.ride(1);
                due.is("1 ridden on best horses", x.at(0, 2), onBest[kind]);
            }
        }
    }

    private static void theLeastMinuteRides() {
        BorderForge x = Due.on("100;p5/0,p4/0,p3/0,p4/0");
        int[] who = {2, 1, 3, 0};
        for (int r : who) {
            due.is("1 the least minute", x.count(4), r);
            x.ride(1);
        }
        BorderForge y = Due.on("100,100;p0/0,p9/0");
        y.ride(1);
        due.is("1 one minute more: the other one", y.count(4), 1);
        BorderForge z = Due.on("100,100;p0/0,p11/0");
        z.ride(1);
        due.is("1 one minute less: again", z.count(4), 0);
    }

    private static void ofLikeOnesTheLesserNumber() {
        BorderForge x = Due.on("100;p3/0,p3/0,p3/0,p3/0");
        for (int r = 0; r < 4; r++) {
            due.is("1 of like ones the lesser number", x.count(4), r);
            x.ride(1);
        }
        BorderForge y = Due.on("100,100;p0/0,p10/0");
        y.ride(1);
        due.is("1 like: the lesser number again", y.count(4), 0);
    }

    private static void whoIsAtTheForgeRidesNoMore() {
        BorderForge x = Due.on("100;p0/0,p900/0");
        due.is("1 first one", x.ride(1), 1);
        due.is("1 the least minute, but at the forge", x.count(4), 1);
        due.is("1 the other one", x.ride(32), 1);
        due.is("1 minute of who was there", x.at(0, 2), 10);
        due.is("1 nobody more", x.count(4), NONE);
    }

    private static void buyingTakesTheSet() {
        BorderForge x = Due.on("101,101,101,101,101,101,101,101;p0/99:07");
        for (int s = 0; s < 8; s++) {
            x.ride(1);
            due.is("1 best horses left at " + s, x.of(s, 2), s == 0 || s == 7 ? 0 : 1);
        }
        due.is("1 paid twice", x.at(0, 3), 93);
        due.is("1 fast twice", x.at(0, 2), 72);
    }

    private static void buyingTakesHorsesLeft() {
        BorderForge x = Due.on("100;p0/9:0");
        x.ride(1);
        due.is("1 none at all: slow", x.at(0, 2), 10);
        due.is("1 none at all: nothing paid", x.at(0, 3), 9);
        due.is("1 none at all: none still", x.of(0, 2), 0);
        BorderForge y = Due.on("101;p0/9:0,p0/9:0");
        y.ride(2);
        due.is("1 the last ones: fast", y.at(0, 2), 6);
        due.is("1 behind the last ones: slow", y.at(1, 2), 10);
        due.is("1 none are left", y.of(0, 2), 0);
    }

    private static void buyingTakesPriceAtLeast() {
        for (int price = 1; price <= 9; price++) {
            BorderForge x = Due.on("104;p0/" + (price - 1) + ":0,p0/" + price + ":0,p0/" + (price + 1) + ":0");
            x.price(price);
            x.ride(3);
            int[] minutes = {10, 6, 6};
            int[] left = {price - 1, 0, 1};
            for (int r = 0; r < 3; r++) {
                due.is("1 price " + price + ": minute of " + r, x.at(r, 2), minutes[r]);
                due.is("1 price " + price + ": coins of " + r, x.at(r, 3), left[r]);
            }
            due.is("1 price " + price + ": horses left", x.of(0, 2), 2);
        }
    }

    private static void tollOrTenMinutes() {
        for (int toll = 1; toll <= 9; toll++) {
            BorderForge x = Due.on("1" + toll + "0;p0/" + (toll - 1) + ",p0/" + toll + ",p0/" + (toll + 1));
            x.ride(3);
            int[] minutes = {20, 10, 10};
            int[] left = {toll - 1, 0, 1};
            for (int r = 0; r < 3; r++) {
                due.is("1 toll " + toll + ": minute of " + r, x.at(r, 2), minutes[r]);
                due.is("1 toll " + toll + ": coins of " + r, x.at(r, 3), left[r]);
            }
        }
        BorderForge y = Due.on("100;p0/0");
        y.ride(1);
        due.is("1 toll 0, coins 0: no wait", y.at(0, 2), 10);
        due.is("1 toll 0, coins 0: none", y.at(0, 3), 0);
    }

    private static void priceIsPaidAheadOfToll() {
        // price 3, toll 5: 8 are enough for both, 7 are for the horses alone
        BorderForge x = Due.on("154;p0/8:0,p0/7:0,p0/3:0,p0/2:0");
        x.ride(4);
        int[] minutes = {6, 16, 16, 20};
        int[] left = {0, 4, 0, 2};
        for (int r = 0; r < 4; r++) {
            due.is("1 price ahead of toll: minute of " + r, x.at(r, 2), minutes[r]);
            due.is("1 price ahead of toll: coins of " + r, x.at(r, 3), left[r]);
        }
    }

    private static void of() {
        edge.same("4 of the first stage", Edge::midway, 2, x -> x.of(0, 0));
        edge.same("4 of the last stage", Edge::midway, 3, x -> x.of(4, 2));
        edge.same("4 of the eighth stage", Edge::brim, 7, x -> x.of(7, 1));
        edge.same("4 no such stage", Edge::midway, BAD,
                x -> x.of(-1, 0), x -> x.of(LEAST, 0), x -> x.of(5, 0), x -> x.of(7, 0), x -> x.of(MOST, 0));
        edge.same("4 no ninth stage", Edge::brim, BAD, x -> x.of(8, 0), x -> x.of(8, 2));
        edge.same("4 what: 0 .. 2", Edge::midway, BAD,
                x -> x.of(0, -1), x -> x.of(0, LEAST), x -> x.of(0, 3), x -> x.of(0, MOST));
    }

    private static void at() {
        int[] told = {4, 0, 38, 9, 1, 11, 15};
        for (int what = 0; what < told.length; what++) {
            int which = what;
            edge.same("5 of the last rider " + what, Edge::midway, told[what], x -> x.at(2, which));
        }
        edge.same("5 of the fourth rider", Edge::brim, 3, x -> x.at(3, 0));
        edge.same("5 no such rider", Edge::midway, BAD,
                x -> x.at(-1, 0), x -> x.at(LEAST, 0), x -> x.at(3, 0), x -> x.at(MOST, 0));
        edge.same("5 no fifth rider", Edge::brim, BAD, x -> x.at(4, 0), x -> x.at(4, 6));
        edge.same("5 what: 0 .. 6", Edge::midway, BAD,
                x -> x.at(0, -1), x -> x.at(0, LEAST), x -> x.at(0, 7), x -> x.at(0, MOST));
    }

    private static void atTheForge() {
        edge.same("5 at the forge: NONE", Edge::arrived, NONE, x -> x.at(0, 5), x -> x.at(0, 6), x -> x.at(2, 5), x -> x.at(2, 6));
        edge.same("5 at the forge: the stage is how many there are", Edge::arrived, 5, x -> x.at(0, 1), x -> x.at(2, 1));
        BorderForge x = Due.on("100,200;p0/0");
        x.ride(1);
        due.is("5 at the last stage: not yet", x.at(0, 6), 20);
        due.is("5 at the last stage: on best horses", x.at(0, 5), 12);
    }

    private static void buys() {
        edge.is("6 where it did", Edge::midway, 21, x -> x.buys(0, 0), x -> x.buys(0, 31), x -> x.buys(0, 21));
        edge.taken("6 none, all of five", Edge::midway, 21, x -> x.buys(0, 0), x -> x.buys(0, 31));
        edge.same("6 as it did", Edge::midway, 21, x -> x.buys(0, 21));
        edge.same("6 of those there are", Edge::midway, BAD,
                x -> x.buys(0, -1), x -> x.buys(0, LEAST), x -> x.buys(0, 32), x -> x.buys(0, 33), x -> x.buys(0, MOST));
        edge.same("6 no such rider", Edge::midway, BAD,
                x -> x.buys(-1, 0), x -> x.buys(LEAST, 0), x -> x.buys(3, 0), x -> x.buys(MOST, 0));
        edge.taken("6 the last rider", Edge::midway, 1, x -> x.buys(2, 16));
        edge.taken("6 a stage that lies behind it", Edge::arrived, 1, x -> x.buys(2, 2));
    }

    private static void buysOfEachLengthOfRoad() {
        BorderForge x = new BorderForge();
        x.rider(0, 0, 0);
        for (int stages = 0; stages <= 8; stages++) {
            int all = (1 << stages) - 1;
            int before = x.at(0, 4);
            due.is("6 one too many of " + stages, x.buys(0, all + 1), BAD);
            due.is("6 it stays", x.at(0, 4), before);
            due.is("6 all of " + stages, x.buys(0, all), before);
            due.is("6 all of them told", x.at(0, 4), all);
            x.stage(1, 0, 0);
        }
    }

    private static void price() {
        edge.taken("7 the least, the most", Edge::midway, 2, x -> x.price(1), x -> x.price(9));
        edge.same("7 as it was", Edge::midway, 2, x -> x.price(2));
        edge.same("7 below 1, above 9", Edge::midway, BAD,
                x -> x.price(0), x -> x.price(-1), x -> x.price(LEAST), x -> x.price(10), x -> x.price(MOST));
        BorderForge x = new BorderForge();
        int before = 3;
        for (int v = 1; v <= 9; v++) {
            due.is("7 what it was", x.price(v), before);
            due.is("7 what it is", x.count(2), v);
            before = v;
        }
    }

    private static void count() {
        int[] told = {5, 3, 2, 0, 2, 45, 4, 8};
        for (int what = 0; what < told.length; what++) {
            int which = what;
            edge.same("10 what " + what, Edge::midway, told[what], x -> x.count(which));
        }
        edge.same("10 what: 0 .. 7", Edge::midway, BAD,
                x -> x.count(-1), x -> x.count(LEAST), x -> x.count(8), x -> x.count(MOST));
    }

    private static void countAtFirstAndLast() {
        edge.same("10 who is at the forge: all", Edge::arrived, 7, x -> x.count(3));
        edge.same("10 who rides next: nobody", Edge::arrived, NONE, x -> x.count(4));
        edge.same("10 coins of all: the most", Edge::brim, 396, x -> x.count(5));
        edge.same("10 best horses of all: the most", Edge::brim, 32, x -> x.count(6));
        BorderForge x = Due.on("100;p0/0,p1/0,p2/0,p3/0");
        int[] sets = {0, 1, 3, 7, 15};
        for (int k = 0; k < sets.length; k++) {
            due.is("10 sets are bits", x.count(3), sets[k]);
            x.ride(1);
        }
        // what an older, longer road had is not counted
        BorderForge y = Due.on("104,104;p0/99,p0/99");
        Due.road(y, "101;p0/5");
        due.is("10 coins of those there are", y.count(5), 5);
        due.is("10 best horses of stages there are", y.count(6), 1);
    }
}
