/** The edges of what is FORETOLD (part 2, promises 17 to 26): each sentence that names one. */
public final class EdgeForetoldTest {
    private static final int BAD = Edge.BAD, NONE = Edge.NONE;
    private static final int LEAST = Edge.LEAST, MOST = Edge.MOST;

    private static final Due due = new Due("EdgeForetoldTest");
    private static final Edge edge = new Edge(due);

    public static void main(String[] args) {
        noSuchRider();
        noSuchOther();
        alike();
        whatIsZeroOrOne();
        ahead();
        aheadAtTheForge();
        aheadAllRideOn();
        comesToEachStage();
        comesNoSuchStage();
        comesItHasGone();
        firstOfLikeOnes();
        firstOfNobody();
        caughtNoLater();
        caughtFromTheGreater();
        caughtFromOneAtLeast();
        caughtAtTheForge();
        bestSoonest();
        bestOfLikeOnesTheFewest();
        bestOfTheseTheLeast();
        bestAtTheEnds();
        earlierIsAhead();
        earlierToThreeHundred();
        earlierNotBelowNought();
        earlierOfItsMinuteNow();
        purseToTheMinute();
        purseToNinetyNine();
        purseMinutesTold();
        loosenedOfLikeOnesTheFirst();
        loosenedNotYetRidden();
        loosenedNone();
        duelRows();
        duelNone();
        duelNobodySooner();
        luckOfTen();
        luckInLowestTerms();
        luckOfLikeOnes();
        luckOfStagesNotYetRidden();
        due.end();
    }

    private static void noSuchRider() {
        for (int rider : new int[] {-1, 3, 4, LEAST, MOST}) {
            edge.same("17 to 26: no rider " + rider, Edge::midway, BAD,
                    x -> x.ahead(rider, 0), x -> x.comes(rider, 5), x -> x.caught(rider, 0), x -> x.best(rider, 0),
                    x -> x.earlier(rider, 0), x -> x.purse(rider, 100), x -> x.loosened(rider, 0), x -> x.duel(rider, 0, 0),
                    x -> x.luck(rider, 5, 0));
        }
        edge.same("17 to 26: no fifth rider", Edge::brim, BAD,
                x -> x.ahead(4, 0), x -> x.comes(4, 8), x -> x.caught(4, 0), x -> x.best(4, 0), x -> x.earlier(4, 0),
                x -> x.purse(4, 100), x -> x.loosened(4, 0), x -> x.duel(4, 0, 0), x -> x.luck(4, 5, 0));
    }

    private static void noSuchOther() {
        for (int other : new int[] {-1, 3, 4, LEAST, MOST}) {
            edge.same("20, 22, 25: no other one " + other, Edge::midway, BAD,
                    x -> x.caught(0, other), x -> x.earlier(0, other), x -> x.duel(0, other, 0));
        }
        edge.same("20, 22, 25: no fifth", Edge::brim, BAD, x -> x.caught(3, 4), x -> x.earlier(3, 4), x -> x.duel(3, 4, 0));
    }

    private static void alike() {
        for (int r = 0; r < 3; r++) {
            int rider = r;
            edge.same("20 alike", Edge::midway, BAD, x -> x.caught(rider, rider));
            edge.same("22 alike", Edge::midway, BAD, x -> x.earlier(rider, rider));
            edge.same("25 alike", Edge::midway, BAD, x -> x.duel(rider, rider, 0), x -> x.duel(rider, rider, 1));
        }
    }

    private static void whatIsZeroOrOne() {
        for (int what : new int[] {-1, 2, LEAST, MOST}) {
            edge.same("17, 21, 24, 25, 26: what " + what, Edge::midway, BAD,
                    x -> x.ahead(0, what), x -> x.best(0, what), x -> x.loosened(0, what), x -> x.duel(0, 1, what),
                    x -> x.luck(0, 5, what));
        }
    }

    private static void ahead() {
        int[] minutes = {59, 132, 93};
        int[] coins = {12, 16, 3};
        for (int r = 0; r < 3; r++) {
            int rider = r;
            edge.same("17 minute of " + r, Edge::midway, minutes[r], x -> x.ahead(rider, 0));
            edge.same("17 coins of " + r, Edge::midway, coins[r], x -> x.ahead(rider, 1));
        }
    }

    private static void aheadAtTheForge() {
        edge.same("17 at the forge: as it is", Edge::arrived, 59, x -> x.ahead(0, 0));
        edge.same("17 at the forge: as it has", Edge::arrived, 12, x -> x.ahead(0, 1));
        BorderForge x = new BorderForge();
        x.rider(0, 999, 99);
        due.is("17 no stages: its start", x.ahead(0, 0), 999);
        due.is("17 no stages: its coins", x.ahead(0, 1), 99);
        // the longest there is: 8 of 9 miles, old, waiting at each toll
        BorderForge y = Due.on("990,990,990,990,990,990,990,990;o999/0");
        due.is("17 the longest", y.ahead(0, 0), 999 + 8 * (135 + 10));
    }

    private static void aheadAllRideOn() {
        // the last of four finds the fourth horses gone by those ahead of it
        BorderForge x = Due.on("103;p3/9:0,p0/9:0,p1/9:0,p2/9:0");
        int[] minutes = {13, 6, 7, 8};
        for (int r = 0; r < 4; r++) {
            due.is("17 all riding on: " + r, x.ahead(r, 0), minutes[r]);
        }
        BorderForge y = Due.on("104;p3/9:0,p0/9:0,p1/9:0,p2/9:0");
        due.is("17 enough for all", y.ahead(0, 0), 9);
        // 8 stages, 4 riders: the last to be there rides the last of 32
        BorderForge all = Due.on("100,100,100,100,100,100,100,100;p0/0,p0/0,p0/0,p0/7");
        for (int r = 0; r < 4; r++) {
            due.is("17 of 32: " + r, all.ahead(r, 0), 80);
            due.is("18 of 32: " + r, all.comes(r, 8), 80);
            due.is("17 of 32: coins of " + r, all.ahead(r, 1), r == 3 ? 7 : 0);
        }
    }

    private static void comesToEachStage() {
        int[] told = {38, 53, 58, 83, 88, 93};
        for (int s = 0; s <= 5; s++) {
            int stage = s;
            edge.same("18 to stage " + s, Edge::midway, told[s], x -> x.comes(2, stage));
        }
        edge.same("18 as it is, if it is there now", Edge::midway, 43, x -> x.comes(0, 3));
        edge.same("18 the forge", Edge::midway, 59, x -> x.comes(0, 5));
        edge.same("18 at the forge now", Edge::arrived, 59, x -> x.comes(0, 5));
        BorderForge y = Due.on("100,100,100,100,100,100,100,100;p7/0");
        for (int s = 0; s <= 8; s++) {
            due.is("18 of eight: " + s, y.comes(0, s), 7 + 10 * s);
        }
        due.is("18 of eight: no ninth", y.comes(0, 9), BAD);
    }

    private static void comesNoSuchStage() {
        edge.same("18 stages 0 .. how many there are", Edge::midway, BAD,
                x -> x.comes(2, -1), x -> x.comes(2, LEAST), x -> x.comes(2, 6), x -> x.comes(2, 8), x -> x.comes(2, MOST));
        BorderForge y = new BorderForge();
        y.rider(0, 4, 0);
        due.is("18 no stages: the forge", y.comes(0, 0), 4);
        due.is("18 no stages: no more", y.comes(0, 1), BAD);
    }

    private static void comesItHasGone() {
        edge.same("18 it has gone from there", Edge::midway, NONE, x -> x.comes(0, 0), x -> x.comes(0, 2), x -> x.comes(1, 2));
        edge.same("18 gone from the last", Edge::arrived, NONE, x -> x.comes(0, 4), x -> x.comes(2, 0));
    }

    private static void firstOfLikeOnes() {
        edge.same("19 first", Edge::midway, 0, x -> x.first());
        due.is("19 like: the lesser number", Due.on("100;p5/0,p5/0,p5/0,p5/0").first(), 0);
        due.is("19 one minute less", Due.on("100;p5/0,p4/0,p5/0,p5/0").first(), 1);
        due.is("19 like, behind a later one", Due.on("100;p5/0,p4/0,p4/0,p4/0").first(), 1);
        due.is("19 the last", Due.on("100;p5/0,p5/0,p5/0,p4/0").first(), 3);
        // there first, not under way: snowed starts ahead and is there in the same minute
        due.is("19 like at the forge", Due.on("100;s0/0,p5/0").first(), 0);
        due.is("19 like at the forge", Due.on("100;p5/0,s0/0").first(), 0);
    }

    private static void firstOfNobody() {
        edge.same("19 no riders", Edge::empty, NONE, x -> x.first());
        BorderForge x = new BorderForge();
        x.stage(1, 0, 0);
        due.is("19 a road, no riders", x.first(), NONE);
        x.rider(0, 999, 0);
        due.is("19 the only one", x.first(), 0);
        edge.same("19 all are there", Edge::arrived, 0, y -> y.first());
    }

    private static void caughtNoLater() {
        due.is("20 in the same minute", Due.on("100;p5/0,p5/0").caught(0, 1), 1);
        due.is("20 a minute later", Due.on("100;p5/0,p6/0").caught(0, 1), NONE);
        due.is("20 a minute sooner", Due.on("100;p5/0,p4/0").caught(0, 1), 1);
        edge.same("20 caught", Edge::midway, 3, x -> x.caught(1, 2), x -> x.caught(1, 0));
        edge.same("20 none", Edge::midway, NONE, x -> x.caught(0, 1), x -> x.caught(0, 2));
        // old at 15, 30, 45, 60; plain from 20 on at 30, 40, 50, 60
        due.is("20 just at the forge", Due.on("100,100,100,100;o0/0,p20/0").caught(0, 1), 4);
        due.is("20 not even there", Due.on("100,100,100,100;o0/0,p21/0").caught(0, 1), NONE);
        due.is("20 a stage ahead of it", Due.on("100,100,100,100;o0/0,p15/0").caught(0, 1), 3);
    }

    private static void caughtFromTheGreater() {
        // old at 15, 150, 165; plain at 30, 120, 130
        BorderForge x = Due.on("100,900,100;o0/0,p20/0");
        due.is("20 from 1 on", x.caught(1, 0), 1);
        x.ride(3);
        due.is("20 the stages", 10 * x.at(0, 1) + x.at(1, 1), 21);
        due.is("20 from 2 on", x.caught(1, 0), NONE);
        due.is("20 from 2 on, the other way", x.caught(0, 1), 2);
        x.ride(2);
        due.is("20 the stages", 10 * x.at(0, 1) + x.at(1, 1), 23);
        due.is("20 from the forge on", x.caught(0, 1), 3);
        due.is("20 from the forge on, the other way", x.caught(1, 0), NONE);
    }

    private static void caughtFromOneAtLeast() {
        // at stage 0 both are in the same minute, which does not count
        due.is("20 1 at least", Due.on("100;p5/0,s5/0").caught(0, 1), NONE);
        due.is("20 1 at least", Due.on("100;s5/0,p9/0").caught(0, 1), 1);
        BorderForge x = new BorderForge();
        x.rider(0, 5, 0);
        x.rider(0, 5, 0);
        due.is("20 no stages: nowhere", x.caught(0, 1), NONE);
        x.stage(1, 0, 0);
        due.is("20 one stage: at the forge", x.caught(0, 1), 1);
    }

    private static void caughtAtTheForge() {
        edge.same("20 both are there", Edge::arrived, 5, x -> x.caught(1, 0), x -> x.caught(1, 2), x -> x.caught(2, 0));
        edge.same("20 both are there: none", Edge::arrived, NONE, x -> x.caught(0, 1), x -> x.caught(2, 1));
        BorderForge y = Due.on("100;p5/0,p5/0");
        y.ride(2);
        due.is("20 like ones", y.caught(0, 1), 1);
        due.is("20 like ones", y.caught(1, 0), 1);
    }

    private static void bestSoonest() {
        edge.same("21 the set", Edge::midway, 16, x -> x.best(0, 0), x -> x.best(1, 0));
        edge.same("21 the set", Edge::midway, 4, x -> x.best(2, 0));
        edge.same("21 the minute", Edge::midway, 59, x -> x.best(0, 1));
        edge.same("21 the minute", Edge::midway, 85, x -> x.best(2, 1));
        edge.same("21 all others as they are", Edge::midway, 126, x -> x.best(1, 1));
        due.is("21 two are sooner than one", Due.on("201,201,101;p0/6").best(0, 0), 3);
        due.is("21 one is sooner than two, for the toll", Due.on("201,251;p0/8").best(0, 0), 1);
        due.is("21 one is sooner than two: when", Due.on("201,251;p0/8").best(0, 1), 32);
    }

    private static void bestOfLikeOnesTheFewest() {
        due.is("21 none, if none is sooner", Due.on("100,100;p0/9").best(0, 0), 0);
        due.is("21 none, if the wait takes as much", Due.on("151,150;p0/5").best(0, 0), 0);
        // a brother takes 5 minutes for a mile, on best horses or not
        due.is("21 none, if it is as long", Due.on("104,104;r0/99").best(0, 0), 0);
        due.is("21 just that which helps", Due.on("104,204,104;r0/99").best(0, 0), 2);
        due.is("21 one of 3 coins' worth", Due.on("201,201,201;p0/5").best(0, 0), 1);
    }

    private static void bestOfTheseTheLeast() {
        due.is("21 the least of three", Due.on("201,201,201;p0/3").best(0, 0), 1);
        due.is("21 two of three", Due.on("201,201,201;p0/6").best(0, 0), 3);
        due.is("21 the least of those that are left", Due.on("200,201,201;p0/3").best(0, 0), 2);
        due.is("21 the longer one, though greater", Due.on("201,301,301;p0/3").best(0, 0), 2);
    }

    private static void bestAtTheEnds() {
        edge.same("21 at the forge: none", Edge::arrived, 0, x -> x.best(0, 0), x -> x.best(2, 0));
        edge.same("21 at the forge: its minute", Edge::arrived, 93, x -> x.best(2, 1));
        due.is("21 all eight", Due.on("101,101,101,101,101,101,101,101;p0/24").best(0, 0), 255);
        due.is("21 seven of eight", Due.on("101,101,101,101,101,101,101,101;p0/23").best(0, 0), 127);
        due.is("21 the eighth alone", Due.on("100,100,100,100,100,100,100,101;p0/9").best(0, 0), 128);
        BorderForge x = Due.on("101,101,101,101,101,101,101,101;p0/99:01234567");
        x.ride(7);
        due.is("21 those ahead of it alone", x.best(0, 0), 128);
        due.is("21 when", x.best(0, 1), 48);
        BorderForge y = new BorderForge();
        y.rider(0, 5, 9);
        due.is("21 no stages: none", y.best(0, 0), 0);
        due.is("21 no stages: its start", y.best(0, 1), 5);
    }

    private static void earlierIsAhead() {
        edge.same("22 it is ahead now: 0", Edge::midway, 0, x -> x.earlier(0, 1), x -> x.earlier(0, 2), x -> x.earlier(2, 1));
        edge.same("22 by so much", Edge::midway, 74, x -> x.earlier(1, 0));
        edge.same("22 by so much", Edge::midway, 35, x -> x.earlier(2, 0));
        due.is("22 a minute ahead: 0", Due.on("100;p4/0,p5/0").earlier(0, 1), 0);
        due.is("22 in the same minute: 1", Due.on("100;p5/0,p5/0").earlier(0, 1), 1);
        due.is("22 in the same minute: 1, of the greater number too", Due.on("100;p5/0,p5/0").earlier(1, 0), 1);
        due.is("22 a minute behind: 2", Due.on("100;p6/0,p5/0").earlier(0, 1), 2);
        // in the same minute at the start, the lesser number has the horses
        due.is("22 by the horses, too", Due.on("201;p14/9:0,p5/9:0").earlier(0, 1), 9);
        due.is("22 of the greater number it has to be a minute sooner", Due.on("201;p5/9:0,p14/9:0").earlier(1, 0), 10);
    }

    private static void earlierToThreeHundred() {
        due.is("22 299", Due.on("100;p998/0,p700/0").earlier(0, 1), 299);
        due.is("22 300", Due.on("100;p999/0,p700/0").earlier(0, 1), 300);
        due.is("22 301 is too much", Due.on("100;p999/0,p699/0").earlier(0, 1), NONE);
        due.is("22 more is too much", Due.on("100;p999/0,p0/0").earlier(0, 1), NONE);
    }

    private static void earlierNotBelowNought() {
        due.is("22 from minute 0: none", Due.on("100;p0/0,p0/0").earlier(0, 1), NONE);
        due.is("22 just to minute 0", Due.on("100;p1/0,p1/0").earlier(0, 1), 1);
        due.is("22 below minute 0", Due.on("100;p1/0,p0/0").earlier(0, 1), NONE);
        due.is("22 to minute 0, by 300", Due.on("100;p300/0,p1/0").earlier(0, 1), 300);
        due.is("22 to minute 1, by 300", Due.on("100;p301/0,p2/0").earlier(0, 1), 300);
        due.is("22 to minute 0, by 299", Due.on("100;p299/0,p1/0").earlier(0, 1), 299);
        due.is("22 in minute 0 and ahead", Due.on("100;p0/0,p1/0").earlier(0, 1), 0);
    }

    private static void earlierOfItsMinuteNow() {
        BorderForge x = Due.on("500;p0/0,p10/0");
        x.wheel(0);
        due.is("22 of its minute now, not of its start", x.earlier(0, 1), 21);
        x.ride(32);
        due.is("22 at the forge: of its minute there", x.earlier(0, 1), 21);
        due.is("22 at the forge: 0", x.earlier(1, 0), 0);
    }

    private static void purseToTheMinute() {
        int[][] told = {{83, 0}, {82, 1}, {73, 1}, {72, 3}, {69, 3}, {68, 5}, {59, 5}, {58, NONE}, {9999, 0}, {0, NONE}};
        for (int[] row : told) {
            edge.same("23 by " + row[0], Edge::midway, row[1], x -> x.purse(0, row[0]));
        }
        edge.same("23 at the forge: by its minute", Edge::arrived, 0, x -> x.purse(0, 59), x -> x.purse(1, 132));
        edge.same("23 at the forge: too late", Edge::arrived, NONE, x -> x.purse(0, 58), x -> x.purse(1, 131));
    }

    private static void purseToNinetyNine() {
        // tolls of 72, and 27 for three times best horses: 162 and 450 minutes
        BorderForge x = Due.on("991,991,991,991,991,991,991,991;p0/0:012");
        x.price(9);
        due.is("23 99", x.purse(0, 612), 99);
        due.is("23 a minute less", x.purse(0, 611), NONE);
        x.buys(0, 15);
        due.is("23 108 are too many", x.purse(0, 576), NONE);
        BorderForge y = Due.on("100;p0/50");
        due.is("23 0", y.purse(0, 10), 0);
        due.is("23 0, none", y.purse(0, 9), NONE);
    }

    private static void purseMinutesTold() {
        edge.same("23 minutes 0 .. 9999", Edge::midway, BAD,
                x -> x.purse(0, -1), x -> x.purse(0, LEAST), x -> x.purse(0, 10000), x -> x.purse(0, MOST));
        BorderForge x = new BorderForge();
        x.rider(0, 0, 0);
        due.is("23 there in minute 0", x.purse(0, 0), 0);
        for (int late = 0; late < 2; late++) {
            BorderForge y = Due.on("100;p" + (989 + late) + "/0");
            for (int k = 0; k < 300; k++) {
                y.wheel(0);
            }
            due.is("23 there in minute 9999, or later", y.purse(0, 9999), late == 0 ? 0 : NONE);
        }
    }

    private static void loosenedOfLikeOnesTheFirst() {
        edge.same("24 of like ones the first", Edge::midway, 3, x -> x.loosened(0, 0), x -> x.loosened(1, 0));
        edge.same("24 when", Edge::midway, 89, x -> x.loosened(0, 1));
        edge.same("24 of like ones the first", Edge::midway, 0, x -> x.loosened(2, 0));
        edge.same("24 when", Edge::midway, 123, x -> x.loosened(2, 1));
        // a wheel off at 0 or 1 leaves the horses at 2 to the other one: the first of those
        BorderForge x = Due.on("100,100,501;p0/9:2,p5/9:2");
        due.is("24 the first of two", x.loosened(0, 0), 0);
        due.is("24 when", x.loosened(0, 1), 100);
        // a wheel off at 0 leaves the horses at 1 to the other one, and so the coins for those at 2
        BorderForge y = Due.on("100,101,902;p0/3:12,p5/3:1");
        due.is("24 the later one costs more", y.loosened(0, 0), 1);
    }

    private static void loosenedNotYetRidden() {
        BorderForge x = Due.on("100,100,100,100,100,100,100,100;p0/0");
        for (int s = 0; s < 8; s++) {
            due.is("24 the stage it is at", x.loosened(0, 0), s);
            due.is("24 when", x.loosened(0, 1), 110);
            x.ride(1);
        }
        due.is("24 none is left", x.loosened(0, 0), NONE);
    }

    private static void loosenedNone() {
        edge.same("24 at the forge", Edge::arrived, NONE,
                x -> x.loosened(0, 0), x -> x.loosened(0, 1), x -> x.loosened(2, 0), x -> x.loosened(2, 1));
        BorderForge y = new BorderForge();
        y.rider(0, 5, 0);
        due.is("24 no stages", y.loosened(0, 0), NONE);
        due.is("24 no stages: when", y.loosened(0, 1), NONE);
    }

    private static void duelRows() {
        edge.same("25 one row", Edge::midway, 1, x -> x.duel(0, 1, 0), x -> x.duel(1, 0, 0));
        edge.same("25 both at the last", Edge::midway, 505, x -> x.duel(0, 1, 1), x -> x.duel(1, 0, 1));
        BorderForge none = new BorderForge();
        none.rider(0, 0, 0);
        none.rider(0, 0, 0);
        due.is("25 no stages: none and none", none.duel(0, 1, 0), 1);
        due.is("25 no stages: -1 and -1", none.duel(0, 1, 1), 0);
        BorderForge all = Due.on("100,100,100,100,100,100,100,100;p0/9,p0/9");
        due.is("25 nothing helps: all 81", all.duel(0, 1, 0), 81);
        due.is("25 nothing helps: -1 ahead of 0", all.duel(0, 1, 1), 0);
        BorderForge last = Due.on("100,100,100,100,100,100,100,902;p0/9,p0/9");
        due.is("25 the eighth helps both", last.duel(0, 1, 0), 1);
        due.is("25 the eighth and the eighth", last.duel(0, 1, 1), 808);
        BorderForge one = Due.on("100,100,100,100,100,100,100,902;p0/9,p0/2");
        due.is("25 the other one can't buy: nine", one.duel(0, 1, 0), 9);
        due.is("25 the other one can't buy: none first", one.duel(0, 1, 1), 800);
        due.is("25 the other way", one.duel(1, 0, 0), 9);
        due.is("25 the other way: none first", one.duel(1, 0, 1), 8);
    }

    private static void duelNone() {
        BorderForge x = Due.on("301,821,501;p7/9,p5/8,r15/6:01");
        due.is("25 no row rests", x.duel(0, 1, 0), 0);
        due.is("25 no row rests: none", x.duel(0, 1, 1), NONE);
    }

    private static void duelNobodySooner() {
        // two that are as soon both rest: one horse, and a second one at a like stage
        BorderForge x = Due.on("201,201;p0/3,p0/3");
        due.is("25 each takes one, either", x.duel(0, 1, 0), 2);
        due.is("25 the first of them", x.duel(0, 1, 1), 102);
        // of two miles best horses spare 8, and then the toll is not paid
        BorderForge wait = Due.on("251;p0/5,p9/0");
        due.is("25 none is sooner than the only one", wait.duel(0, 1, 0), 2);
        due.is("25 none is sooner than the only one: the first", wait.duel(0, 1, 1), 0);
        // no wheel is off: who is a minute ahead has the horses
        BorderForge ahead = Due.on("100,201;p0/3,p1/3");
        due.is("25 a minute ahead: the other one has nothing to choose", ahead.duel(0, 1, 0), 3);
        due.is("25 a minute ahead: the first", ahead.duel(0, 1, 1), 200);
        BorderForge third = Due.on("100,201;p0/0,p50/3,p51/3:1");
        due.is("25 a minute ahead of a third one", third.duel(0, 1, 0), 3);
        due.is("25 a minute ahead of a third one: the first", third.duel(0, 1, 1), 2);
        edge.same("25 at the forge nobody is sooner", Edge::arrived, 36, y -> y.duel(0, 1, 0), y -> y.duel(2, 1, 0));
        edge.same("25 at the forge: none and none", Edge::arrived, 0, y -> y.duel(0, 1, 1));
        // others buy as they do: the third one has taken the horses
        due.is("25 others as they are", Due.on("901;p5/9,p5/9,p0/9:0").duel(0, 1, 0), 4);
        // what they buy now does not count
        due.is("25 just one stage, or none", Due.on("902,902;p0/9:01,p0/9:01").duel(0, 1, 0), 4);
    }

    private static void luckOfTen() {
        edge.same("26 c: 0 .. 10", Edge::midway, BAD,
                x -> x.luck(0, -1, 0), x -> x.luck(0, LEAST, 0), x -> x.luck(0, 11, 0), x -> x.luck(0, MOST, 1));
        edge.same("26 by 0: sure", Edge::midway, 1, x -> x.luck(0, 0, 0), x -> x.luck(0, 0, 1));
        edge.same("26 by 10: never", Edge::midway, 0, x -> x.luck(0, 10, 0));
        edge.same("26 by 10: never, of 1", Edge::midway, 1, x -> x.luck(0, 10, 1));
        // of two stages both would have to be off: 1 less c times c of 100
        int[][] told = {{1, 99, 100}, {2, 24, 25}, {4, 21, 25}, {5, 3, 4}, {9, 19, 100}};
        for (int[] row : told) {
            edge.same("26 above by " + row[0], Edge::midway, row[1], x -> x.luck(0, row[0], 0));
            edge.same("26 below by " + row[0], Edge::midway, row[2], x -> x.luck(0, row[0], 1));
        }
    }

    private static void fraction(BorderForge x, int rider, int c, int above, int below) {
        due.is("26 above of " + rider + " by " + c, x.luck(rider, c, 0), above);
        due.is("26 below of " + rider + " by " + c, x.luck(rider, c, 1), below);
    }

    private static void luckInLowestTerms() {
        edge.same("26 never: 0", Edge::midway, 0, x -> x.luck(1, 5, 0), x -> x.luck(2, 0, 0));
        edge.same("26 never: of 1", Edge::midway, 1, x -> x.luck(1, 5, 1), x -> x.luck(2, 0, 1));
        BorderForge eight = Due.on("100,100,100,100,100,100,100,100;p0/0,p20/0");
        fraction(eight, 0, 0, 1, 1);
        fraction(eight, 0, 1, 43046721, 100000000);
        fraction(eight, 0, 5, 1, 256);
        fraction(eight, 0, 8, 1, 390625);
        fraction(eight, 0, 9, 1, 100000000);
        fraction(eight, 0, 10, 0, 1);
        // seven wheels of eight are fine: 1 less 9 to the eighth
        BorderForge most = Due.on("100,100,100,100,100,100,100,100;p0/0,p235/0");
        fraction(most, 0, 9, 56953279, 100000000);
        fraction(most, 0, 10, 0, 1);
        // all of them are fine
        BorderForge all = Due.on("100,100,100,100,100,100,100,100;p0/0,p240/0");
        fraction(all, 0, 9, 1, 1);
        fraction(all, 0, 10, 1, 1);
    }

    private static void luckOfLikeOnes() {
        fraction(Due.on("100;p0/0,p30/0"), 0, 10, 1, 1);
        fraction(Due.on("100;p0/0,p29/0"), 0, 10, 0, 1);
        fraction(Due.on("100;p30/0,p0/0"), 1, 10, 0, 1);
        fraction(Due.on("100;p31/0,p0/0"), 1, 10, 1, 1);
        // nobody else's wheels
        fraction(Due.on("100;p0/0,p1/0"), 1, 10, 0, 1);
    }

    private static void luckOfStagesNotYetRidden() {
        edge.same("26 at the forge: first, or not", Edge::arrived, 1, x -> x.luck(0, 10, 0), x -> x.luck(0, 10, 1));
        edge.same("26 at the forge: not", Edge::arrived, 0, x -> x.luck(1, 5, 0), x -> x.luck(2, 0, 0));
        BorderForge x = new BorderForge();
        x.rider(0, 5, 0);
        fraction(x, 0, 10, 1, 1);
        BorderForge eight = Due.on("100,100,100,100,100,100,100,100;p0/0,p999/0");
        BorderForge race = Due.on("100,100,100,100,100,100,100,100;p0/0,p100/0");
        eight.ride(8);
        fraction(eight, 0, 10, 1, 1);
        race.ride(7);
        // one is left: there at 80, or 110, the other one at 180; then at 170, or 200
        fraction(race, 0, 1, 1, 1);
        race.wheel(0);
        race.wheel(0);
        race.wheel(0);
        fraction(race, 0, 1, 9, 10);
        BorderForge y = Due.on("100,100,100;p0/0,p25/0");
        for (int left = 3; left >= 0; left--) {
            int[] above = {1, 7, 49, 343};
            int[] below = {1, 10, 100, 1000};
            fraction(y, 0, 3, above[left], below[left]);
            y.ride(1);
            if (left == 1) {
                due.is("26 it is there", y.at(0, 1), 3);
            }
        }
    }
}
