/** Promises 17 to 26: what is foretold. */
public final class ForetoldTest {
    private static final Due due = new Due("ForetoldTest");
    private static final int BAD = BorderForge.BAD;
    private static final int NONE = BorderForge.NONE;

    public static void main(String[] args) {
        ahead();
        comes();
        first();
        caught();
        best();
        earlier();
        purse();
        loosened();
        duel();
        luck();
        fewestOfLikeOnes();
        oneFarBehindTheFirst();
        nothingOfAnEarlierAsking();
        nothingOfTheImage();
        nothingIsChanged();
        due.end();
    }

    private static void ahead() {
        // the first one takes the best horses at both stages
        BorderForge x = Due.on("501,501;p0/9:01,p1/9:01");
        due.is("17 minute", x.ahead(0, 0), 60);
        due.is("17 coins", x.ahead(0, 1), 3);
        due.is("17 minute of the second", x.ahead(1, 0), 101);
        due.is("17 coins of the second", x.ahead(1, 1), 9);
        due.all("17 wrong", BAD, x.ahead(2, 0), x.ahead(-1, 0), x.ahead(0, 2), x.ahead(0, -1), x.ahead(Integer.MAX_VALUE, 0));
        x.wheel(0);
        due.is("17 then the second takes them", x.ahead(1, 0), 61);
        due.is("17 and the first none", x.ahead(0, 0), 130);
        x.ride(32);
        due.is("17 at the forge: as it is", x.ahead(0, 0), x.at(0, 2));
        due.is("17 at the forge: coins", x.ahead(1, 1), x.at(1, 3));
        BorderForge y = new BorderForge();
        y.rider(2, 7, 8);
        due.is("17 no stages", y.ahead(0, 0), 7);
        due.is("17 no stages: coins", y.ahead(0, 1), 8);
    }

    private static void comes() {
        BorderForge x = Due.on("500,260,300;p10/5,o0/9");
        int[] told = {10, 60, 90, 120};
        for (int s = 0; s < told.length; s++) {
            due.is("18 to " + s, x.comes(0, s), told[s]);
        }
        due.all("18 wrong", BAD, x.comes(0, 4), x.comes(0, -1), x.comes(2, 0), x.comes(-1, 0), x.comes(9, 9));
        x.ride(2);
        due.is("18 it has gone from there", x.comes(0, 0), NONE);
        due.is("18 as it is", x.comes(0, 1), 60);
        x.wheel(0);
        due.is("18 as it is, a wheel off", x.comes(0, 1), 90);
        due.is("18 onward", x.comes(0, 3), 150);
        x.ride(32);
        due.is("18 at the forge", x.comes(0, 3), 150);
        due.is("18 gone from the last", x.comes(0, 2), NONE);
        BorderForge y = new BorderForge();
        y.rider(0, 4, 0);
        due.is("18 no stages", y.comes(0, 0), 4);
        due.is("18 no stages: wrong", y.comes(0, 1), BAD);
    }

    private static void first() {
        BorderForge x = Due.on("500,200;o0/0,p35/0,p35/0,s40/0");
        due.is("19 of like ones the lesser number", x.first(), 0);
        x.wheel(0);
        due.is("19 then", x.first(), 1);
        x.wheel(1);
        due.is("19 then", x.first(), 2);
        x.wheel(2);
        due.is("19 then", x.first(), 3);
        x.ride(32);
        due.is("19 all are there", x.first(), 3);
        due.is("19 nobody", new BorderForge().first(), NONE);
        BorderForge y = new BorderForge();
        y.rider(0, 5, 0);
        y.rider(0, 4, 0);
        due.is("19 no stages", y.first(), 1);
    }

    private static void caught() {
        BorderForge x = Due.on("100,900,100;o0/0,p20/0");
        // one comes at 15, 150, 165; the other at 30, 120, 130
        due.is("20 caught", x.caught(0, 1), 2);
        due.is("20 the other one, at once", x.caught(1, 0), 1);
        due.all("20 wrong", BAD, x.caught(0, 0), x.caught(0, 2), x.caught(2, 0), x.caught(-1, 0), x.caught(0, -1));
        x.ride(3);
        // now one is at 2, in 150, the other at 1, in 30
        due.is("20 from where both are", x.caught(1, 0), NONE);
        x.wheel(0);
        due.is("20 at the stage it is at", x.caught(0, 1), 2);
        x.ride(32);
        due.is("20 at the forge", x.caught(0, 1), 3);
        due.is("20 not at the forge", x.caught(1, 0), NONE);
        BorderForge y = Due.on("500;p3/0,p3/0");
        due.is("20 no later", y.caught(0, 1), 1);
        due.is("20 no later, either", y.caught(1, 0), 1);
        BorderForge z = new BorderForge();
        z.rider(0, 5, 0);
        z.rider(0, 4, 0);
        due.is("20 no stages", z.caught(0, 1), NONE);
        due.is("20 as the first call", Due.on("100,900;o0/0,p20/0").caught(0, 1), 2);
        due.is("20 as the first call", Due.on("100,900;p0/0,p20/0").caught(0, 1), NONE);
        due.is("20 as the first call", Due.on("100,900;p20/0,o0/0").caught(1, 0), 2);
    }

    private static void best() {
        BorderForge x = Due.on("552,502;p0/5");
        due.is("21 the toll is not paid then", x.best(0, 0), 1);
        due.is("21 when", x.best(0, 1), 90);
        due.all("21 wrong", BAD, x.best(1, 0), x.best(-1, 0), x.best(0, 2), x.best(0, -1));
        BorderForge y = Due.on("502,502,402;p0/3:12");
        due.is("21 of like ones the least", y.best(0, 0), 1);
        due.is("21 when", y.best(0, 1), 120);
        y.ride(1);
        due.is("21 only those ahead", y.best(0, 0), 2);
        due.is("21 when", y.best(0, 1), 120);
        due.is("21 it buys as it did", y.at(0, 4), 6);
        y.price(4);
        due.is("21 too dear: none", y.best(0, 0), 0);
        due.is("21 too dear: when", y.best(0, 1), 140);
        y.ride(32);
        due.is("21 at the forge", y.best(0, 0), 0);
        due.is("21 at the forge: when", y.best(0, 1), y.at(0, 2));
        BorderForge z = Due.on("501,501;p0/9:01,p1/9");
        due.is("21 others take all", z.best(1, 0), 0);
        due.is("21 others take all: when", z.best(1, 1), 101);
        due.is("21 both", z.best(0, 0), 3);
        BorderForge w = Due.on("101,101,101,101,101,101,101,904;p0/3");
        due.is("21 the last of eight", w.best(0, 0), 128);
        due.is("21 the last of eight: when", w.best(0, 1), 124);
        due.is("21 soonest ahead of fewest", Due.on("902,902,102;p0/6").best(0, 0), 3);
        BorderForge v = Due.on("504,504,504,504,504,504,504,504;p0/99");
        due.is("21 all eight", v.best(0, 0), 255);
        due.is("21 all eight: when", v.best(0, 1), 240);
    }

    private static void earlier() {
        BorderForge x = Due.on("500;p40/0,p20/0");
        due.is("22 how much", x.earlier(0, 1), 21);
        due.is("22 it is ahead", x.earlier(1, 0), 0);
        due.all("22 wrong", BAD, x.earlier(0, 0), x.earlier(0, 2), x.earlier(2, 0), x.earlier(-1, 1), x.earlier(0, -1));
        due.is("22 not below minute 0", Due.on("500;p40/0,p0/0").earlier(0, 1), NONE);
        due.is("22 just minute 0", Due.on("500;p40/0,p1/0").earlier(0, 1), 40);
        due.is("22 the most", Due.on("500;p999/0,p700/0").earlier(0, 1), 300);
        due.is("22 above the most", Due.on("500;p999/0,p699/0").earlier(0, 1), NONE);
        due.is("22 it takes the horses then", Due.on("501;p30/9:0,p10/9:0").earlier(0, 1), 20);
        due.is("22 no later is not ahead", Due.on("500;p5/0,p5/0").earlier(0, 1), 1);
        due.is("22 no later is not ahead", Due.on("500;p5/0,p5/0").earlier(1, 0), 1);
        x.ride(32);
        due.is("22 at the forge", x.earlier(0, 1), 21);
        due.is("22 at the forge", x.earlier(1, 0), 0);
    }

    private static void purse() {
        BorderForge x = Due.on("552,502;p0/5:01");
        int[][] told = {{9999, 0}, {110, 0}, {109, 3}, {90, 3}, {89, 6}, {80, 6}, {70, 6}, {69, 11}, {60, 11}, {59, NONE}, {0, NONE}};
        for (int[] row : told) {
            due.is("23 by " + row[0], x.purse(0, row[0]), row[1]);
        }
        due.is("23 it has what it had", x.at(0, 3), 5);
        due.all("23 wrong", BAD, x.purse(0, -1), x.purse(0, 10000), x.purse(1, 0), x.purse(-1, 0));
        x.ride(32);
        due.is("23 at the forge", x.purse(0, 90), 0);
        due.is("23 at the forge: too late", x.purse(0, 89), NONE);
        BorderForge y = Due.on("992,992,992,992,992,992,992,992;p0/0:01234567");
        due.is("23 72 of tolls, 24 of horses", y.purse(0, 432), 96);
        y.price(4);
        due.is("23 more than there may be", y.purse(0, 432), NONE);
        BorderForge z = Due.on("992,992,992,992,992,992,992,992;p0/0:0123456");
        z.price(3);
        z.ride(1);
        due.is("23 63 of tolls, 18 of horses", z.purse(0, z.at(0, 2) + 6 * 54 + 90), 81);
        z.price(6);
        due.is("23 the most there may be", z.purse(0, z.at(0, 2) + 6 * 54 + 90), 99);
    }

    private static void loosened() {
        BorderForge x = Due.on("100,501;p0/9:1,p5/9:1");
        due.is("24 where the horses are lost", x.loosened(0, 0), 0);
        due.is("24 when", x.loosened(0, 1), 90);
        due.all("24 wrong", BAD, x.loosened(2, 0), x.loosened(-1, 0), x.loosened(0, 2), x.loosened(0, -1));
        BorderForge y = Due.on("100,101,902;p0/3:12,p5/3:1");
        due.is("24 not where the coins are kept", y.loosened(0, 0), 1);
        due.is("24 when", y.loosened(0, 1), 136);
        BorderForge z = Due.on("100,200,300;p0/0");
        due.is("24 of like ones the first", z.loosened(0, 0), 0);
        z.ride(1);
        due.is("24 not yet ridden", z.loosened(0, 0), 1);
        due.is("24 when", z.loosened(0, 1), 90);
        z.ride(2);
        due.is("24 at the forge", z.loosened(0, 0), NONE);
        due.is("24 at the forge: when", z.loosened(0, 1), NONE);
        due.is("24 at the forge: wrong ahead of it", z.loosened(0, 2), BAD);
    }

    private static void duel() {
        BorderForge x = Due.on("501;p0/9,p0/9");
        due.is("25 how many", x.duel(0, 1, 0), 2);
        due.is("25 the first", x.duel(0, 1, 1), 100);
        due.is("25 of the others", x.duel(1, 0, 0), 2);
        due.is("25 the first", x.duel(1, 0, 1), 1);
        due.all("25 wrong", BAD,
                x.duel(0, 0, 0), x.duel(0, 2, 0), x.duel(2, 0, 0), x.duel(-1, 0, 0), x.duel(0, -1, 0), x.duel(0, 1, 2), x.duel(0, 1, -1));
        // each takes the longest that the other one leaves it
        BorderForge y = Due.on("301,901,501;p0/9:0,p1/9:012");
        due.is("25 one", y.duel(0, 1, 0), 1);
        due.is("25 the second, and the third", y.duel(0, 1, 1), 203);
        due.is("25 they buy as they did", y.at(1, 4), 7);
        BorderForge z = Due.on("102,102;p0/0,p0/0");
        due.is("25 nobody can: all rest", z.duel(0, 1, 0), 9);
        due.is("25 nobody can: none and none", z.duel(0, 1, 1), 0);
        z.ride(32);
        due.is("25 at the forge", z.duel(0, 1, 0), 9);
        BorderForge v = Due.on("152;p0/5,p0/5");
        due.is("25 none is sooner: one", v.duel(0, 1, 0), 1);
        due.is("25 none is sooner: none and none", v.duel(0, 1, 1), 0);
        BorderForge u = Due.on("301,821,501;p7/9,p5/8,r15/6:01");
        due.is("25 no row rests", u.duel(0, 1, 0), 0);
        due.is("25 no row rests: none", u.duel(0, 1, 1), NONE);
        BorderForge w = new BorderForge();
        w.rider(0, 0, 0);
        w.rider(0, 0, 0);
        due.is("25 no stages", w.duel(0, 1, 0), 1);
        due.is("25 no stages: none and none", w.duel(0, 1, 1), 0);
    }

    private static void luck() {
        BorderForge x = Due.on("100;p0/0,p25/0");
        fraction(x, 0, 3, 7, 10);
        fraction(x, 0, 5, 1, 2);
        fraction(x, 0, 0, 1, 1);
        fraction(x, 0, 10, 0, 1);
        fraction(x, 1, 3, 0, 1);
        due.all("26 wrong", BAD, x.luck(0, -1, 0), x.luck(0, 11, 0), x.luck(2, 0, 0), x.luck(-1, 0, 0), x.luck(0, 0, 2), x.luck(0, 0, -1));
        fraction(Due.on("100;p0/0,p30/0"), 0, 3, 1, 1);
        fraction(Due.on("100;p30/0,p0/0"), 1, 3, 7, 10);
        BorderForge y = Due.on("100,100,100,100,100,100,100,100;p0/0,p20/0");
        fraction(y, 0, 3, 5764801, 100000000);
        fraction(y, 0, 10, 0, 1);
        fraction(y, 1, 9, 0, 1);
        y.ride(4);
        // three are ridden; one wheel is one too many still
        fraction(y, 0, 1, 59049, 100000);
        BorderForge z = Due.on("100,100;p0/0,p55/0");
        // one wheel is fine, two are not: 1 less c times c of 100
        fraction(z, 0, 4, 21, 25);
        z.ride(32);
        fraction(z, 0, 4, 1, 1);
        fraction(z, 1, 4, 0, 1);
        BorderForge w = new BorderForge();
        w.rider(0, 5, 0);
        fraction(w, 0, 10, 1, 1);
        // a wheel off at the first stage leaves the horses to the other one
        fraction(Due.on("100,501;p0/9:1,p2/9:1"), 0, 2, 16, 25);
    }

    private static void fraction(BorderForge x, int rider, int c, int above, int below) {
        due.is("26 above of " + rider + " by " + c, x.luck(rider, c, 0), above);
        due.is("26 below of " + rider + " by " + c, x.luck(rider, c, 1), below);
    }

    /** A set of one that comes behind a like set of two, as numbers go. */
    private static void fewestOfLikeOnes() {
        // 0 and 1: 24 less, a wait at 1. 2 alone: 24 less, a wait at 2. 0 or 1 alone: a wait at 2, less won
        BorderForge x = Due.on("401,251,612;p0/8");
        due.is("21 the fewest, not the least set", x.best(0, 0), 4);
        due.is("21 when it is there then", x.best(0, 1), 106);
        x.buys(0, 3);
        due.is("21 by two, as soon", x.ahead(0, 0), 106);
        x.buys(0, 4);
        due.is("21 by one, as soon", x.ahead(0, 0), 106);
        x.buys(0, 5);
        due.is("21 its coins are gone at 2", x.ahead(0, 0), 114);
        x.buys(0, 0);
        due.is("21 by none, later", x.ahead(0, 0), 120);
    }

    private static final String APART = "500,300,200;p0/9,o90/9";

    /** Rider 0 is at the forge by 100, when rider 1 has hardly begun: it comes at 165, 210, 240. */
    private static void oneFarBehindTheFirst() {
        due.is("18 to 1, as the first call", Due.on(APART).comes(1, 1), 165);
        due.is("18 to 2, as the first call", Due.on(APART).comes(1, 2), 210);
        due.is("18 to the forge, as the first call", Due.on(APART).comes(1, 3), 240);
        due.is("20 as the first call", Due.on(APART).caught(1, 0), 1);
        due.is("20 as the first call", Due.on(APART).caught(0, 1), NONE);
        due.is("23 the second one's toll", Due.on("150;p0/9,p0/9").purse(1, 10), 5);
        due.is("23 it may wait", Due.on("150;p0/9,p0/9").purse(1, 20), 0);
        BorderForge x = Due.on("300,300;o0/0,p0/0");
        // at the forge in 90 and 60: with one wheel off the second is not first
        due.is("26 above", x.luck(1, 5, 0), 1);
        due.is("26 below", x.luck(1, 5, 1), 4);
        x.ride(1);
        due.is("26 above, the first a stage on", x.luck(1, 5, 0), 1);
        due.is("26 below, the first a stage on", x.luck(1, 5, 1), 4);
        x.ride(1);
        due.is("26 above, both a stage on", x.luck(1, 3, 0), 7);
        due.is("26 below, both a stage on", x.luck(1, 3, 1), 10);
    }

    /** What was foretold when wheels were off is not taken for what is. */
    private static void nothingOfAnEarlierAsking() {
        nothingOfAnEarlierAsking(Due.on(APART), 0, 1);
        nothingOfAnEarlierAsking(Due.on("500,300,200;o90/9,p0/9"), 1, 0);
    }

    private static void nothingOfAnEarlierAsking(BorderForge x, int fast, int slow) {
        for (int k = 0; k < 5; k++) {
            x.wheel(fast);
        }
        due.is("18 late, by wheels", x.comes(fast, 1), 200);
        due.is("20 caught, by wheels", x.caught(fast, slow), 1);
        for (int k = 0; k < 5; k++) {
            x.undo();
        }
        x.ride(2);
        due.is("20 a stage it has gone from counts for nothing", x.caught(fast, slow), NONE);
        due.is("20 the other one, from 2 on", x.caught(slow, fast), 2);
    }

    /** An image kept further on tells nothing of how it is now. */
    private static void nothingOfTheImage() {
        BorderForge x = Due.on("401,401;p0/8:01,s0/8");
        x.ride(3);
        x.image();
        for (int k = 0; k < 3; k++) {
            x.undo();
        }
        due.is("17 from now", x.ahead(0, 0), 48);
        due.is("18 from now", x.comes(0, 0), 0);
        due.is("20 from now", x.caught(1, 0), 1);
        due.is("21 from now", x.best(0, 0), 3);
        due.is("21 from now, the minute", x.best(0, 1), 48);
        due.is("24 from now", x.loosened(0, 0), 0);
        due.is("25 from now", x.duel(0, 1, 0), 2);
        // at 48, 78 or 108 against 90: not both wheels
        due.is("26 from now, above", x.luck(0, 5, 0), 3);
        due.is("26 from now, below", x.luck(0, 5, 1), 4);
    }

    private static void nothingIsChanged() {
        BorderForge x = Due.on("521,302,710,431,901;p0/14:024,o5/30:13,b10/9:0,r40/22");
        x.ride(3);
        String before = state(x);
        for (int r = 0; r < 4; r++) {
            int other = (r + 1) % 4;
            for (int what = 0; what < 2; what++) {
                x.ahead(r, what);
                x.best(r, what);
                x.loosened(r, what);
                x.duel(r, other, what);
                x.luck(r, 3, what);
            }
            x.comes(r, 5);
            x.caught(r, other);
            x.earlier(r, other);
            x.purse(r, 300);
        }
        x.first();
        due.is("17 to 26 nothing is changed", state(x).equals(before) ? 1 : 0, 1);
        due.is("17 to 26 nothing more to be undone", x.count(7), 3);
    }

    private static String state(BorderForge x) {
        StringBuilder text = new StringBuilder();
        for (int r = 0; r < 4; r++) {
            for (int what = 0; what < 7; what++) {
                text.append(x.at(r, what)).append(' ');
            }
        }
        for (int s = 0; s < 5; s++) {
            text.append(x.of(s, 2)).append(' ');
        }
        int draw = x.seed(0);
        x.seed(draw);
        return text.append(draw).toString();
    }
}
