/**
 * The edges of the Terms: of several answers below 0 the first that a call names, NULL, CAST, INDEX, SIZE in
 * this order; what is refused changes nothing, but as told. Each row here has at least two things wrong.
 */
public final class EdgeTermsTest {
    private static final int BAD = Edge.BAD, NOT = Edge.NOT, FULL = Edge.FULL, NONE = Edge.NONE;
    private static final int NULL = Edge.NULL, CAST = Edge.CAST, INDEX = Edge.INDEX, SIZE = Edge.SIZE;

    private static final Due due = new Due("EdgeTermsTest");
    private static final Edge edge = new Edge(due);

    public static void main(String[] args) {
        badIsAheadOfFull();
        badIsAheadOfNot();
        badIsAheadOfNone();
        badIsAheadOfSize();
        badIsAheadOfWhatTheMachineFinds();
        nullIsAheadOfCast();
        castIsAheadOfIndex();
        indexIsAheadOfNot();
        fullChangesNothing();
        notChangesNothing();
        noneChangesNothing();
        aFaultChangesTheTapeAlone();
        theConstants();
        due.end();
    }

    private static void badIsAheadOfFull() {
        edge.same("2 stage: BAD ahead of FULL", Edge::brim, BAD,
                x -> x.stage(0, 0, 0), x -> x.stage(10, 0, 0), x -> x.stage(1, -1, 0), x -> x.stage(1, 10, 0),
                x -> x.stage(1, 0, -1), x -> x.stage(1, 0, 5));
        edge.same("3 rider: BAD ahead of FULL", Edge::brim, BAD,
                x -> x.rider(-1, 0, 0), x -> x.rider(5, 0, 0), x -> x.rider(0, -1, 0), x -> x.rider(0, 1000, 0),
                x -> x.rider(0, 0, -1), x -> x.rider(0, 0, 100));
        edge.same("8 type: BAD ahead of FULL", Edge::brim, BAD, x -> x.type(31), x -> x.type(127));
    }

    private static void badIsAheadOfNot() {
        edge.same("11 ride: BAD ahead of NOT", Edge::arrived, BAD, x -> x.ride(0), x -> x.ride(33));
        edge.same("11 ride: BAD ahead of NOT, nobody", Edge::empty, BAD, x -> x.ride(0), x -> x.ride(33));
        edge.same("12 wheel: BAD, though all are at the forge", Edge::arrived, BAD, x -> x.wheel(-1), x -> x.wheel(3));
        edge.same("13 give: BAD ahead of NOT", Edge::midway, BAD,
                x -> x.give(2, 2, 10), x -> x.give(2, 3, 10), x -> x.give(2, -1, 10), x -> x.give(2, 0, 100));
        edge.same("14 drift: BAD ahead of NOT", Edge::arrived, BAD, x -> x.drift(0), x -> x.drift(33));
        edge.same("14 drift: BAD ahead of NOT, nobody", Edge::empty, BAD, x -> x.drift(0), x -> x.drift(33));
    }

    private static void badIsAheadOfNone() {
        edge.same("5 at: BAD, at the forge", Edge::arrived, BAD, x -> x.at(0, 7), x -> x.at(0, -1), x -> x.at(3, 5));
        edge.same("18 comes: BAD, where nobody ever was", Edge::arrived, BAD, x -> x.comes(0, -1), x -> x.comes(3, 0));
        edge.same("20 caught: BAD, where there is no stage", EdgeTermsTest::twoWithoutRoad, BAD,
                x -> x.caught(0, 0), x -> x.caught(0, 2), x -> x.caught(-1, 0));
        edge.same("22 earlier: BAD, not none", EdgeTermsTest::twoWithoutRoad, BAD,
                x -> x.earlier(0, 0), x -> x.earlier(1, 1), x -> x.earlier(0, 2));
        edge.same("23 purse: BAD, not none", Edge::midway, BAD, x -> x.purse(0, -1), x -> x.purse(3, 0));
        edge.same("24 loosened: BAD, at the forge", Edge::arrived, BAD,
                x -> x.loosened(0, 2), x -> x.loosened(0, -1), x -> x.loosened(3, 0));
        edge.same("25 duel: BAD, at the forge", Edge::arrived, BAD, x -> x.duel(0, 1, 2), x -> x.duel(0, 0, 1));
    }

    private static BorderForge twoWithoutRoad() {
        BorderForge x = new BorderForge();
        x.rider(0, 0, 0);
        x.rider(0, 0, 0);
        return x;
    }

    private static void badIsAheadOfSize() {
        edge.same("31 sheet: BAD ahead of SIZE", Edge::midway, BAD,
                x -> x.sheet(-1, 0, -1), x -> x.sheet(4, 0, -1), x -> x.sheet(0, -1, -1), x -> x.sheet(0, 4, -1));
    }

    private static void badIsAheadOfWhatTheMachineFinds() {
        // sheet 3 is nothing; the lane, the item and how many lie ahead are wrong as well
        edge.same("29 passed: BAD ahead of NULL", Edge::midway, BAD,
                x -> x.passed(-1, 3, 0, -1, 8), x -> x.passed(3, 3, 0, -1, 8), x -> x.passed(0, 4, 0, -1, 8),
                x -> x.passed(0, 3, 4, -1, 8), x -> x.passed(0, 3, -1, -1, 8), x -> x.passed(0, 3, 0, -1, 9));
        edge.same("29 passed: BAD ahead of CAST, INDEX, NOT", Edge::midway, BAD,
                x -> x.passed(0, 0, 0, -1, 9), x -> x.passed(0, 0, 3, -1, 9), x -> x.passed(0, 1, 3, 0, 9));
        edge.same("30 film: BAD ahead of NULL", Edge::midway, BAD,
                x -> x.film(-1, 8, 3, 0, -1), x -> x.film(3, 8, 3, 0, -1), x -> x.film(0, 8, 4, 0, -1),
                x -> x.film(0, 8, 3, 4, -1), x -> x.film(0, 8, 3, -1, -1), x -> x.film(0, 9, 3, 0, -1));
        edge.same("30 film: BAD ahead of CAST, INDEX, NOT", Edge::midway, BAD,
                x -> x.film(0, 9, 0, 0, -1), x -> x.film(0, 9, 0, 3, -1), x -> x.film(0, 9, 1, 3, 0));
        edge.same("32 drop: BAD", Edge::empty, BAD, x -> x.drop(-1), x -> x.drop(4));
        edge.same("33 item: BAD ahead of NULL, CAST, INDEX", Edge::midway, BAD,
                x -> x.item(3, 4, -1, 0), x -> x.item(3, -1, -1, 0), x -> x.item(0, 4, -1, 0), x -> x.item(0, 4, 6, 0));
        edge.same("34 copy: BAD ahead of NULL, INDEX", Edge::midway, BAD,
                x -> x.copy(4, -1, 3, -1, -1), x -> x.copy(3, -1, 4, -1, -1), x -> x.copy(-1, 0, 3, 0, 99),
                x -> x.copy(3, 0, -1, 0, 99));
    }

    private static void nullIsAheadOfCast() {
        edge.same("29 passed: NULL ahead of INDEX, NOT", Edge::midway, NULL,
                x -> x.passed(0, 3, 0, -1, 8), x -> x.passed(0, 3, 3, 24, 1), x -> x.passed(0, 3, 0, 0, 3));
        edge.same("30 film: NULL ahead of INDEX, NOT", Edge::midway, NULL,
                x -> x.film(0, 8, 3, 0, -1), x -> x.film(0, 1, 3, 3, 24), x -> x.film(0, 3, 3, 0, 0));
        edge.same("33 item: NULL ahead of INDEX", Edge::midway, NULL, x -> x.item(3, 0, -1, 0), x -> x.item(3, 3, 24, 0));
        edge.same("34 copy: NULL ahead of CAST, INDEX", Edge::midway, NULL,
                x -> x.copy(3, -1, 0, -1, -1), x -> x.copy(0, -1, 3, -1, -1), x -> x.copy(3, 0, 2, 0, 25),
                x -> x.copy(2, 0, 3, 0, 25), x -> x.copy(3, -1, 3, -1, -1));
    }

    private static void castIsAheadOfIndex() {
        edge.same("29 passed: CAST ahead of INDEX, NOT", Edge::midway, CAST,
                x -> x.passed(0, 0, 2, -1, 8), x -> x.passed(0, 0, 0, 6, 1), x -> x.passed(0, 0, 1, 0, 3));
        edge.same("30 film: CAST ahead of INDEX, NOT", Edge::midway, CAST,
                x -> x.film(0, 8, 0, 2, -1), x -> x.film(0, 1, 0, 0, 6), x -> x.film(0, 3, 0, 1, 0));
        edge.same("33 item: CAST ahead of INDEX", Edge::midway, CAST, x -> x.item(0, 2, -1, 0), x -> x.item(2, 1, 4, 0));
        edge.same("34 copy: CAST ahead of INDEX", Edge::midway, CAST,
                x -> x.copy(0, -1, 2, 0, 1), x -> x.copy(0, 0, 2, -1, 1), x -> x.copy(2, 0, 0, 0, -1),
                x -> x.copy(2, 5, 0, 0, 0));
    }

    private static void indexIsAheadOfNot() {
        // rider 0 has 2 ahead of it
        edge.same("29 passed: INDEX ahead of NOT", Edge::midway, INDEX,
                x -> x.passed(0, 0, 3, -1, 3), x -> x.passed(0, 0, 3, 4, 3), x -> x.passed(0, 2, 0, 0, 8));
        edge.same("30 film: INDEX ahead of NOT", Edge::midway, INDEX,
                x -> x.film(0, 3, 0, 3, -1), x -> x.film(0, 3, 0, 3, 4), x -> x.film(0, 8, 2, 0, 0));
    }

    private static void fullChangesNothing() {
        edge.same("2 stage: FULL", Edge::brim, FULL, x -> x.stage(1, 0, 0), x -> x.stage(9, 9, 4));
        edge.same("3 rider: FULL", Edge::brim, FULL, x -> x.rider(0, 0, 0), x -> x.rider(4, 999, 99));
        edge.same("8 type: FULL", Edge::brim, FULL, x -> x.type(32), x -> x.type(126), x -> x.type('1'));
    }

    private static void notChangesNothing() {
        edge.same("11 ride: NOT", Edge::arrived, NOT, x -> x.ride(1), x -> x.ride(32));
        edge.same("12 wheel: NOT", Edge::arrived, NOT, x -> x.wheel(0), x -> x.wheel(2));
        edge.same("13 give: NOT", Edge::midway, NOT, x -> x.give(0, 1, 18), x -> x.give(2, 0, 99));
        edge.same("14 drift: NOT", Edge::arrived, NOT, x -> x.drift(1), x -> x.drift(32));
        edge.same("29 passed: NOT", Edge::midway, NOT, x -> x.passed(0, 1, 3, 0, 3), x -> x.passed(2, 1, 3, 0, 6));
        edge.same("30 film: NOT", Edge::midway, NOT, x -> x.film(0, 3, 1, 3, 0), x -> x.film(2, 6, 1, 3, 1));
    }

    private static void noneChangesNothing() {
        edge.same("15 undo: NONE", Edge::empty, NONE, x -> x.undo());
        edge.same("19 first: NONE", Edge::empty, NONE, x -> x.first());
        edge.same("28 restore: NONE", Edge::empty, NONE, x -> x.restore());
        edge.same("18 comes: NONE", Edge::midway, NONE, x -> x.comes(0, 2));
        edge.same("24 loosened: NONE", Edge::arrived, NONE, x -> x.loosened(0, 0), x -> x.loosened(0, 1));
    }

    /** 'But as told': of what is refused, only a fault of a road changes something, the tape. */
    private static void aFaultChangesTheTapeAlone() {
        String untouched = Edge.seen(Edge.midwayNoTape());
        BorderForge x = Edge.midway();
        due.is("9 road: a fault behind 52", x.road(), -22);
        due.is("9 road: the tape is empty, all else stays", Edge.seen(x).equals(untouched) ? 1 : 0, 1);
        BorderForge y = Edge.midway();
        Due.type(y, "1,302,434;b9/9:012,s77/8:1,o5/5:03");
        due.is("9 road: a fault at its last letter", y.road(), -55);
        due.is("9 road: what was read of it is not kept", Edge.seen(y).equals(untouched) ? 1 : 0, 1);
        edge.same("9 road: of an empty tape", Edge::midwayNoTape, -20, z -> z.road());
        edge.same("9 road: of an empty tape, a new object", Edge::empty, -20, z -> z.road());
    }

    private static void theConstants() {
        int[] told = {BAD, NOT, FULL, NONE, NULL, CAST, INDEX, SIZE};
        int[] wants = {-1, -2, -3, -4, -11, -12, -13, -14};
        for (int k = 0; k < told.length; k++) {
            due.is("terms: constant " + k, told[k], wants[k]);
        }
    }
}
