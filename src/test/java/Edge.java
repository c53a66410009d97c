/**
 * Calls at the edges: what one answers, and whether anything is changed by it. An object can't be read
 * without using it up, so each call is made on an object of its own, which is then held against a twin
 * that was made likewise and spared the call.
 */
final class Edge {
    static final int BAD = BorderForge.BAD, NOT = BorderForge.NOT, FULL = BorderForge.FULL, NONE = BorderForge.NONE;
    static final int NULL = BorderForge.NULL, CAST = BorderForge.CAST, INDEX = BorderForge.INDEX, SIZE = BorderForge.SIZE;
    static final int LEAST = Integer.MIN_VALUE, MOST = Integer.MAX_VALUE;

    /** 90 letters, blanks and a road of one stage, one rider. */
    static final String FULL_TAPE = " ".repeat(80) + "314;p1/9" + " ".repeat(2);

    /** Whose minutes stand on the sheets. */
    static final int FILMED = 2;

    interface Call {
        int on(BorderForge x);
    }

    interface State {
        BorderForge make();
    }

    private final Due due;

    Edge(Due due) {
        this.due = due;
    }

    /** Each call answers so, and all is as it was. */
    void same(String sentence, State state, int want, Call... calls) {
        String untouched = seen(state.make());
        for (int k = 0; k < calls.length; k++) {
            BorderForge x = state.make();
            due.is(sentence + " [" + k + "]", calls[k].on(x), want);
            String touched = seen(x);
            boolean like = touched.equals(untouched);
            due.is(sentence + " [" + k + "] leaves all as it was", like ? 1 : 0, 1);
            if (!like) {
                System.out.println("  was " + untouched + "\n  is  " + touched);
            }
        }
    }

    /** Each call answers so, and something is changed by it. */
    void taken(String sentence, State state, int want, Call... calls) {
        String untouched = seen(state.make());
        for (int k = 0; k < calls.length; k++) {
            BorderForge x = state.make();
            due.is(sentence + " [" + k + "]", calls[k].on(x), want);
            due.is(sentence + " [" + k + "] changes something", seen(x).equals(untouched) ? 1 : 0, 0);
        }
    }

    /** Each call answers so, on an object of its own; what it changes is looked at elsewhere. */
    void is(String sentence, State state, int want, Call... calls) {
        for (int k = 0; k < calls.length; k++) {
            due.is(sentence + " [" + k + "]", calls[k].on(state.make()), want);
        }
    }

    // ---- the states

    static BorderForge empty() {
        return new BorderForge();
    }

    /**
     * 5 stages, 3 riders under way, 8 things to be undone, an image, a tape begun, sheets 0 and 1 of
     * longs (6 and 24 items), 2 of bytes (4 items), 3 nothing.
     */
    static BorderForge midway() {
        BorderForge x = midwayNoTape();
        Due.type(x, "52");
        return x;
    }

    static BorderForge midwayNoTape() {
        BorderForge x = new BorderForge();
        x.stage(2, 1, 2);
        x.stage(1, 0, 1);
        x.stage(3, 2, 2);
        x.stage(1, 1, 0);
        x.stage(1, 2, 3);
        x.rider(0, 3, 20);
        x.rider(2, 0, 30);
        x.rider(4, 8, 9);
        x.buys(0, 21);
        x.buys(1, 3);
        x.buys(2, 1);
        x.price(2);
        x.seed(77);
        x.ride(1);
        x.wheel(2);
        x.image();
        x.ride(3);
        x.give(1, 0, 4);
        x.drift(2);
        x.wheel(1);
        x.sheet(0, 3, 6);
        x.sheet(1, 3, 24);
        x.sheet(2, 0, 4);
        x.film(FILMED, 2, 0, 3, 1);
        x.film(FILMED, 2, 1, 3, 0);
        x.film(FILMED, 2, 2, 0, 1);
        return x;
    }

    /** As midway, but all are at the forge. */
    static BorderForge arrived() {
        BorderForge x = midway();
        x.ride(32);
        return x;
    }

    /** All is full: 8 stages, 4 riders, a tape of 90 letters, sheets of 24 items, one of each lane. */
    static BorderForge brim() {
        BorderForge x = new BorderForge();
        for (int s = 0; s < 8; s++) {
            x.stage(1, s, 4);
        }
        for (int r = 0; r < 4; r++) {
            x.rider(r, 10 * r, 99);
            x.buys(r, 255);
        }
        Due.type(x, FULL_TAPE);
        for (int s = 0; s < 4; s++) {
            x.sheet(s, s, 24);
            x.film(FILMED, 8, s, s, 16);
        }
        x.image();
        x.wheel(0);
        return x;
    }

    // ---- what is seen

    /** All that answers can tell of an object, which is used up by it. */
    static String seen(BorderForge x) {
        StringBuilder told = new StringBuilder();
        tellRoad(x, told);
        tellSheets(x, told);
        tellPast(x, told);
        told.append("restored ").append(x.restore()).append(' ');
        tellRoad(x, told);
        tellPast(x, told);
        told.append("tape ").append(x.type('1')).append(' ');
        told.append(Due.road(x, ";p3/14")).append(' ');
        tellRoad(x, told);
        return told.toString();
    }

    private static void tellRoad(BorderForge x, StringBuilder told) {
        told.append("counts ");
        for (int what = 0; what < 8; what++) {
            told.append(x.count(what)).append(' ');
        }
        for (int s = 0; s < x.count(0); s++) {
            told.append("of ").append(x.of(s, 0)).append(' ').append(x.of(s, 1)).append(' ');
        }
        for (int r = 0; r < x.count(1); r++) {
            told.append("at ").append(x.at(r, 0)).append(' ').append(x.at(r, 4)).append(' ');
        }
        tellMoving(x, told);
    }

    private static void tellMoving(BorderForge x, StringBuilder told) {
        told.append("moving ");
        for (int r = 0; r < x.count(1); r++) {
            for (int what = 1; what < 4; what++) {
                told.append(x.at(r, what)).append(' ');
            }
        }
        for (int s = 0; s < x.count(0); s++) {
            told.append(x.of(s, 2)).append(' ');
        }
        int draw = x.seed(0);
        x.seed(draw);
        told.append(draw).append(' ');
    }

    /** Items are known by the rider whose minutes they were put from: another item does not tell of it. */
    private static void tellSheets(BorderForge x, StringBuilder told) {
        int rider = Math.min(FILMED, x.count(1) - 1);
        for (int s = 0; s < 4; s++) {
            told.append("sheet ");
            for (int lane = 0; lane < 4; lane++) {
                int found = x.item(s, lane, -1, 0);
                told.append(found).append(' ');
                for (int i = 0; found == INDEX && i < 4; i++) {
                    told.append(x.passed(rider, s, lane, i, 1)).append(' ');
                    told.append(x.passed(rider, s, lane, i, 2)).append(' ');
                }
                told.append(x.passed(rider, s, lane, 16, 8)).append(' ');
            }
            told.append(x.drop(s)).append(' ');
        }
    }

    private static void tellPast(BorderForge x, StringBuilder told) {
        for (int k = 0; k < 9; k++) {
            int left = x.undo();
            told.append("undone ").append(left).append(' ');
            if (left < 0) {
                break;
            }
            tellMoving(x, told);
        }
    }
}
