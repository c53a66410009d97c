/** The edges of THE TAPE and of a ROAD as a TEXT (part 3, promises 8 and 9): each sentence that names one. */
public final class EdgeTextTest {
    private static final int BAD = Edge.BAD, FULL = Edge.FULL, NONE = Edge.NONE;

    private static final Due due = new Due("EdgeTextTest");
    private static final Edge edge = new Edge(due);

    public static void main(String[] args) {
        letters();
        theTapeHasNinety();
        theTapeIsEmptyThen();
        oneToEightStages();
        milesAreADigitFromOne();
        tollIsADigit();
        horsesAreADigitToFour();
        oneToFourRiders();
        kindsAreFiveLetters();
        starts();
        coins();
        numbersHaveOneToThreeDigits();
        perhapsWhereItBuys();
        stagesBoughtAtAreThere();
        stagesBoughtAtRise();
        theEndIsHowManyThereAre();
        blanksCountForNothing();
        blanksEndANumber();
        theFaultLiesBehindBlanks();
        theFirstFaultCounts();
        inPlaceOfAll();
        priceAndTheDrawStay();
        nothingIsLeftToBeUndone();
        aFaultLeavesAll();
        due.end();
    }

    /** It is a road of so many riders. */
    private static void road(String text, int riders) {
        due.is("9 <" + text + ">", Due.road(new BorderForge(), text), riders);
    }

    /** It has a fault at that place. */
    private static void fault(String text, int place) {
        due.is("9 <" + text + ">", Due.road(new BorderForge(), text), -20 - place);
    }

    private static void letters() {
        edge.taken("8 letters 32 .. 126", Edge::midway, 3, x -> x.type(32), x -> x.type(126), x -> x.type('0'));
        edge.same("8 below 32, above 126", Edge::midway, BAD,
                x -> x.type(31), x -> x.type(0), x -> x.type(-1), x -> x.type(Edge.LEAST), x -> x.type(127),
                x -> x.type(128), x -> x.type(32 + 256), x -> x.type(32 + 65536), x -> x.type(Edge.MOST));
        BorderForge x = new BorderForge();
        for (int letter = 32; letter <= 121; letter++) {
            due.is("8 letter " + letter, x.type(letter), letter - 31);
        }
        BorderForge y = new BorderForge();
        for (int letter = 122; letter <= 126; letter++) {
            due.is("8 letter " + letter, y.type(letter), letter - 121);
        }
    }

    private static void theTapeHasNinety() {
        BorderForge x = new BorderForge();
        due.is("8 the 89th", Due.type(x, " ".repeat(89)), 89);
        due.is("8 the 90th", x.type(' '), 90);
        due.is("8 the 91st", x.type(' '), FULL);
        due.is("8 the 92nd", x.type('1'), FULL);
        edge.same("8 FULL: 90", Edge::brim, FULL, y -> y.type(' '), y -> y.type('1'));
        due.is("9 all 90 are read: the end", x.road(), -110);
        due.is("9 the last of 90 letters can't stand there", Due.road(x, " ".repeat(89) + "x"), -109);
        due.is("9 a road that ends with the 90th", Due.road(x, " ".repeat(82) + "314;p1/9"), 1);
        due.is("9 its last digit", x.at(0, 3), 9);
        due.is("9 cut by the 90th", Due.road(x, " ".repeat(84) + "314;p1/9"), -110);
    }

    private static void theTapeIsEmptyThen() {
        BorderForge x = new BorderForge();
        due.is("9 an empty one", x.road(), -20);
        due.is("9 a road", Due.road(x, "314;p1/9"), 1);
        due.is("9 empty behind a road", x.road(), -20);
        due.is("8 the first letter behind a road", x.type('3'), 1);
        due.is("9 a fault", x.road(), -21);
        due.is("8 the first letter behind a fault", x.type('3'), 1);
        due.is("9 only what was typed since", Due.road(x, "14;p1/9"), 1);
        BorderForge y = Edge.brim();
        due.is("9 of a full tape", y.road(), 1);
        due.is("8 the first letter behind a full tape", y.type(' '), 1);
    }

    private static void oneToEightStages() {
        fault(";p0/0", 0);
        fault(",100;p0/0", 0);
        for (int stages = 1; stages <= 8; stages++) {
            String text = "100,".repeat(stages - 1) + "100";
            BorderForge x = new BorderForge();
            due.is("9 " + stages + " stages", Due.road(x, text + ";p0/0"), 1);
            due.is("9 so many", x.count(0), stages);
            fault(text, text.length());
            fault(text + "p0/0", text.length());
        }
        // no , can stand behind the eighth
        fault("100,".repeat(8) + "100;p0/0", 31);
        fault("100,".repeat(8) + ";p0/0", 31);
        fault("100,,100;p0/0", 4);
        fault("100,;p0/0", 4);
        fault("100 100;p0/0", 4);
        aRiderWhereAStageIsDue();
    }

    /** What could stand later on can't stand there: no STAGES, half a STAGE, a STAGE less than the , tells. */
    private static void aRiderWhereAStageIsDue() {
        for (char kind : "psobr".toCharArray()) {
            fault(kind + "0/0", 0);
            fault("  " + kind + "0/0", 2);
            fault("1" + kind + "0/0", 1);
            fault("10" + kind + "0/0", 2);
            fault("10 " + kind + "0/0", 3);
            fault("100," + kind + "0/0", 4);
            fault("100,2" + kind + "0/0", 5);
            fault("100,20" + kind + "0/0", 6);
        }
    }

    private static void milesAreADigitFromOne() {
        for (int miles = 1; miles <= 9; miles++) {
            BorderForge x = new BorderForge();
            due.is("9 miles " + miles, Due.road(x, miles + "00;p0/0"), 1);
            due.is("9 miles told", x.of(0, 0), miles);
        }
        fault("000;p0/0", 0);
        fault("100,000;p0/0", 4);
        // the letters ahead of 0 and behind 9
        fault("/00;p0/0", 0);
        fault(":00;p0/0", 0);
        fault("-100;p0/0", 0);
    }

    private static void tollIsADigit() {
        for (int toll = 0; toll <= 9; toll++) {
            BorderForge x = new BorderForge();
            due.is("9 toll " + toll, Due.road(x, "1" + toll + "0;p0/0"), 1);
            due.is("9 toll told", x.of(0, 1), toll);
        }
        fault("1/0;p0/0", 1);
        fault("1:0;p0/0", 1);
        fault("1;p0/0", 1);
        fault("1,", 1);
    }

    private static void horsesAreADigitToFour() {
        for (int horses = 0; horses <= 4; horses++) {
            BorderForge x = new BorderForge();
            due.is("9 best horses " + horses, Due.road(x, "10" + horses + ";p0/0"), 1);
            due.is("9 best horses told", x.of(0, 2), horses);
        }
        fault("105;p0/0", 2);
        fault("109;p0/0", 2);
        fault("10/;p0/0", 2);
        fault("10;p0/0", 2);
        fault("1000;p0/0", 3);
    }

    private static void oneToFourRiders() {
        fault("100;", 4);
        fault("100;,p0/0", 4);
        fault("100;;p0/0", 4);
        for (int riders = 1; riders <= 4; riders++) {
            String text = "100;" + "p0/0,".repeat(riders - 1) + "p0/0";
            BorderForge x = new BorderForge();
            due.is("9 " + riders + " riders", Due.road(x, text), riders);
            due.is("9 so many", x.count(1), riders);
            fault(text + ";", text.length());
            fault(text + "p", text.length());
            // a , stands but behind the fourth; then a rider is due
            fault(text + ",", text.length() + (riders < 4 ? 1 : 0));
            fault(text + ",,", text.length() + (riders < 4 ? 1 : 0));
        }
        fault("100;p0/0,p0/0,p0/0,p0/0,p0/0", 23);
    }

    private static void kindsAreFiveLetters() {
        String kinds = "psobr";
        for (int letter = 32; letter <= 126; letter++) {
            String text = "100;" + (char) letter + "7/8";
            int kind = kinds.indexOf(letter);
            if (kind >= 0) {
                BorderForge x = new BorderForge();
                due.is("9 <" + text + ">", Due.road(x, text), 1);
                due.is("9 the kind of " + (char) letter, x.at(0, 0), kind);
            } else {
                // a blank is no letter that can't stand there: the one behind it is
                fault(text, letter == ' ' ? 5 : 4);
            }
        }
    }

    private static void starts() {
        String[] texts = {"0", "9", "10", "99", "100", "999", "00", "000", "007", "07"};
        int[] told = {0, 9, 10, 99, 100, 999, 0, 0, 7, 7};
        for (int k = 0; k < texts.length; k++) {
            BorderForge x = new BorderForge();
            due.is("9 start " + texts[k], Due.road(x, "100;p" + texts[k] + "/1"), 1);
            due.is("9 start told", x.at(0, 2), told[k]);
        }
        fault("100;p/1", 5);
        fault("100;p-1/1", 5);
        fault("100;p:/1", 5);
    }

    private static void coins() {
        String[] texts = {"0", "9", "10", "99", "00", "000", "099", "09"};
        int[] told = {0, 9, 10, 99, 0, 0, 99, 9};
        for (int k = 0; k < texts.length; k++) {
            BorderForge x = new BorderForge();
            due.is("9 coins " + texts[k], Due.road(x, "100;p5/" + texts[k]), 1);
            due.is("9 coins told", x.at(0, 3), told[k]);
        }
        fault("100;p5/", 7);
        fault("100;p5/:0", 7);
        fault("100;p5/,p5/5", 7);
        // a number that is not as told is a fault at its first digit
        fault("100;p5/100", 7);
        fault("100;p5/999", 7);
        fault("100;p5/100,p0/0", 7);
        fault("100;p5/99,p5/100:0", 13);
    }

    private static void numbersHaveOneToThreeDigits() {
        fault("100;p1000/0", 8);
        fault("100;p0000/0", 8);
        fault("100;p9999/0", 8);
        fault("100;p5/0990", 10);
        fault("100;p5/0000", 10);
    }

    private static void perhapsWhereItBuys() {
        road("100;p5/5", 1);
        road("100;p5/5:0", 1);
        fault("100;p5/5:", 9);
        fault("100;p5/5:,p5/5", 9);
        fault("100;p5/5::0", 9);
        fault("100;p5/5:0:0", 10);
        fault("100;p5/5:x", 9);
        fault("100;p5/5:/", 9);
        fault("100;p5/5:0/", 10);
        BorderForge x = new BorderForge();
        due.is("9 some buy, some do not", Due.road(x, "100,100;p5/5:1,p5/5,p5/5:0,p5/5"), 4);
        int[] sets = {2, 0, 1, 0};
        for (int r = 0; r < 4; r++) {
            due.is("9 where " + r + " buys", x.at(r, 4), sets[r]);
        }
    }

    private static void stagesBoughtAtAreThere() {
        for (int stages = 1; stages <= 8; stages++) {
            String text = "100,".repeat(stages - 1) + "100;p5/5:";
            for (int digit = 0; digit <= 9; digit++) {
                BorderForge x = new BorderForge();
                boolean there = digit < stages;
                due.is("9 <" + text + digit + ">", Due.road(x, text + digit), there ? 1 : -20 - text.length());
                due.is("9 where it buys", x.at(0, 4), there ? 1 << digit : BAD);
            }
        }
        BorderForge x = new BorderForge();
        due.is("9 all eight", Due.road(x, "100,".repeat(7) + "100;p5/5:01234567"), 1);
        due.is("9 all eight told", x.at(0, 4), 255);
        fault("100,".repeat(7) + "100;p5/5:012345678", 45);
        fault("100,".repeat(7) + "100;p5/5:012345677", 45);
    }

    private static void stagesBoughtAtRise() {
        String text = "100,100,100;p5/5:";
        for (int one = 0; one < 3; one++) {
            for (int two = 0; two < 3; two++) {
                due.is("9 rising: " + one + two, Due.road(new BorderForge(), text + one + two), two > one ? 1 : -20 - 18);
            }
        }
        fault(text + "021", 19);
        fault(text + "0122", 20);
        fault(text + "0120", 20);
        road(text + "012", 1);
        road(text + "02", 1);
    }

    /** Of each beginning of a road: it is one, or its fault is the end. */
    private static void theEndIsHowManyThereAre() {
        String text = "521,302;p37/14:01,s4/9";
        boolean[] whole = new boolean[text.length() + 1];
        for (int length : new int[] {13, 14, 16, 17, 22}) {
            whole[length] = true;
        }
        for (int length = 0; length <= text.length(); length++) {
            String begun = text.substring(0, length);
            if (whole[length]) {
                road(begun, length < 20 ? 1 : 2);
                road(begun + "  ", length < 20 ? 1 : 2);
            } else {
                fault(begun, length);
                fault(begun + "  ", length + 2);
            }
        }
    }

    private static void blanksCountForNothing() {
        String text = "521,302;p37/14:01,s4/9";
        for (int place = 0; place <= text.length(); place++) {
            boolean inANumber = place == 10 || place == 13;
            String apart = text.substring(0, place) + "  " + text.substring(place);
            BorderForge x = new BorderForge();
            due.is("9 <" + apart + ">", Due.road(x, apart), inANumber ? -20 - place - 2 : 2);
            if (!inANumber) {
                due.is("9 start", x.at(0, 2), 37);
                due.is("9 coins", x.at(0, 3), 14);
                due.is("9 where it buys", x.at(0, 4), 3);
                due.is("9 horses", x.of(1, 2), 2);
            }
        }
        fault("   ", 3);
        fault(" ".repeat(90), 90);
        // no other letter is a blank
        fault("1_00;p0/0", 1);
        fault("1.00;p0/0", 1);
    }

    private static void blanksEndANumber() {
        fault("100;p1 2/3", 7);
        fault("100;p12 3/3", 8);
        fault("100;p5/1 2", 9);
        fault("100;p5/9 9,p0/0", 9);
        road("100;p5 /6 ", 1);
        // 10 is as told, so the 0 behind the blank is what can't stand there
        fault("100;p5/10 0", 10);
    }

    private static void theFaultLiesBehindBlanks() {
        fault("  x", 2);
        fault("1  x", 3);
        fault("10  5;p0/0", 4);
        fault("100  x", 5);
        fault("100;  x", 6);
        fault("100;p  x", 7);
        fault("100;p1  x", 8);
        fault("100;p1/  100", 9);
        fault("100;p1/1  x", 10);
        fault("100;p1/1:  1", 11);
        fault("100;p1/1:0  0", 12);
        fault("100;p1/1  ,  ,", 13);
        fault("100;p1  ", 8);
    }

    private static void theFirstFaultCounts() {
        fault("005;x1000/100:9", 0);
        fault("1x5;x1000/100:9", 1);
        fault("105;x1000/100:9", 2);
        fault("100;x1000/100:9", 4);
        fault("100;p1000/100:9", 8);
        fault("100;p100/100:9", 9);
        fault("100;p100/10:9", 12);
    }

    private static void inPlaceOfAll() {
        BorderForge x = Due.on("994,994,994,994,994,994,994,994;p999/99:01234567,s999/99:0,o9/9,b9/9");
        x.ride(9);
        due.is("9 a lesser one", Due.road(x, "100;r0/0"), 1);
        int[] counts = {1, 1, 3, 0, 0, 0, 0, 0};
        for (int what = 0; what < counts.length; what++) {
            due.is("9 in place of all: count " + what, x.count(what), counts[what]);
        }
        int[] told = {4, 0, 0, 0, 0};
        for (int what = 0; what < told.length; what++) {
            due.is("9 in place of all: at " + what, x.at(0, what), told[what]);
        }
        due.is("9 no second stage", x.of(1, 0), BAD);
        due.is("9 no second rider", x.at(1, 0), BAD);
        due.is("2 a stage behind it", x.stage(2, 0, 0), 1);
        due.is("3 a rider behind it", x.rider(1, 2, 3), 1);
    }

    private static void priceAndTheDrawStay() {
        BorderForge x = Edge.midwayNoTape();
        due.is("9 a road", Due.road(x, "100;r0/0"), 1);
        due.is("9 price stays", x.count(2), 2);
        due.is("9 the draw stays", x.seed(1), 1589938195);
        due.is("9 sheets stay", x.drop(1), 24);
        due.is("9 the image stays", x.restore(), 1);
        due.is("9 the image's stages", x.count(0), 5);
    }

    private static void nothingIsLeftToBeUndone() {
        BorderForge x = Edge.midwayNoTape();
        due.is("15 eight were known", x.count(7), 8);
        Due.road(x, "100;r0/0");
        due.is("15 a road leaves nothing", x.count(7), 0);
        due.is("15 a road leaves nothing", x.undo(), NONE);
        due.is("15 as the road told", x.at(0, 2), 0);
    }

    private static void aFaultLeavesAll() {
        String untouched = Edge.seen(Edge.midwayNoTape());
        String[] faulty = {
            "", "x", "9", "94", "944", "944,", "944;", "944;b", "944;b9", "944;b9/", "944;b9/100", "944;b9/9:", "944;b9/9:1",
            "944;b9/9,", "944;b9/9;", "944,944,944,944,944,944,944,944,944;b9/9", "944;b9/9,b9/9,b9/9,b9/9,b9/9", " ",
        };
        for (String text : faulty) {
            BorderForge x = Edge.midwayNoTape();
            due.is("9 a fault in <" + text + ">", Due.road(x, text) <= -20 ? 1 : 0, 1);
            due.is("9 all else stays", Edge.seen(x).equals(untouched) ? 1 : 0, 1);
        }
    }
}
