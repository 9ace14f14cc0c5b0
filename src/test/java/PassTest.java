/**
 * The sentences of "Terms" about a PASS and a CUT. Each test goes through all four sides: its points are told for the
 * side x0, and turned for the others.
 */
public final class PassTest {
    private static final String[] SIDES = {"x0", "x1", "y0", "y1"};
    private static final int MOST = 8;

    public static void main(String[] args) {
        Check.sentence("on the good side, as the one before is: itself", PassTest::goodBehindGood);
        Check.sentence("on the good side, as the one before is not: first the CUT, then itself", PassTest::goodBehindBad);
        Check.sentence("not on the good side, as the one before is: the CUT", PassTest::badBehindGood);
        Check.sentence("not on the good side, as the one before is not: nothing", PassTest::badBehindBad);
        Check.sentence("a PASS begins with VERTEX 0, the last one before it: CUT and itself", PassTest::zeroGoodLastBad);
        Check.sentence("a PASS begins with VERTEX 0, the last one before it: the CUT", PassTest::zeroBadLastGood);
        Check.sentence("a PASS begins with VERTEX 0, the last one before it: both good", PassTest::zeroGoodLastGood);
        Check.sentence("a PASS begins with VERTEX 0, the last one before it: both not", PassTest::zeroBadLastBad);
        Check.sentence("good sides: at least x0, y0; at most x1, y1", PassTest::onTheSide);
        Check.sentence("the new VERTICES, going round from VERTEX 0 on", PassTest::goingRound);
        Check.sentence("the CUT: (s, b + (d - b) (s - a) / (c - a)); with y = s likewise", PassTest::ordinaryCuts);
        Check.sentence("the CUT is on the side, also where a VERTEX is", PassTest::cutWhereAVertexIs);
        Check.sentence("the CUT's quotient, above 0, is cut downwards", PassTest::quotientAboveZero);
        Check.sentence("the CUT's quotient, below 0, is cut downwards", PassTest::quotientBelowZero);
        Check.sentence("the CUT's quotient, a whole one, stays", PassTest::quotientWhole);
        Check.sentence("the CUT's quotient of the farthest points", PassTest::quotientOfFarPoints);
        Check.finish();
    }

    /** A point (u, v) told for the side x0 is (-u, v) for x1, (v, u) for y0, and (v, -u) for y1. */
    private static int[] turned(int side, int... points) {
        int[] result = new int[points.length];
        for (int i = 0; i < points.length; i += 2) {
            int along = side % 2 == 0 ? points[i] : -points[i];
            result[i] = side < 2 ? along : points[i + 1];
            result[i + 1] = side < 2 ? points[i + 1] : along;
        }
        return result;
    }

    /** The other three sides are as far away as they may be. */
    private static void window(PolygonFrame frame, int side, int s) {
        int[] sides = {-16384, 16384, -16384, 16384};
        sides[side] = side % 2 == 0 ? s : -s;
        Check.window(frame, sides[0], sides[2], sides[1], sides[3]);
    }

    private static void pass(int s, int[] from, int... to) {
        for (int side = 0; side < SIDES.length; side++) {
            PolygonFrame frame = Check.with(MOST, turned(side, from));
            window(frame, side, s);
            Check.clipped(SIDES[side], frame, turned(side, to));
        }
    }

    private static int[] points(int... points) {
        return points;
    }

    private static void goodBehindGood() {
        pass(3, points(4, 1, 5, 9, 7, -2), 4, 1, 5, 9, 7, -2);
    }

    private static void goodBehindBad() {
        pass(3, points(5, 0, 1, 2, 7, 8), 5, 0, 3, 1, 3, 4, 7, 8);
    }

    private static void badBehindGood() {
        pass(3, points(4, 4, 6, 0, 0, 6, 8, 6), 4, 4, 6, 0, 3, 3, 3, 6, 8, 6);
        pass(3, points(1, 0, 5, 4, 1, 8), 3, 2, 5, 4, 3, 6);
    }

    private static void badBehindBad() {
        pass(3, points(5, 0, 1, 4, -9, 77, 1, -4), 3, -2, 5, 0, 3, 2);
        pass(3, points(2, 0, 1, 4, -9, 77));
    }

    private static void zeroGoodLastBad() {
        pass(3, points(5, 0, 6, 3, 1, 4), 3, 2, 5, 0, 6, 3, 3, 3);
        pass(3, points(5, 0, 8, 2, 6, 3, 4, 4, 1, 4), 3, 2, 5, 0, 8, 2, 6, 3, 4, 4, 3, 4);
    }

    private static void zeroBadLastGood() {
        pass(3, points(1, 4, 5, 0, 6, 3), 3, 3, 3, 2, 5, 0, 6, 3);
        pass(3, points(1, 4, 5, 0, 2, 2, 1, 3, 6, 3), 3, 3, 3, 2, 5, 0, 3, 1, 3, 3, 6, 3);
    }

    private static void zeroGoodLastGood() {
        pass(3, points(5, 0, 1, 4, 6, 3), 5, 0, 3, 2, 3, 3, 6, 3);
    }

    private static void zeroBadLastBad() {
        pass(3, points(1, 4, 5, 0, 2, 6), 3, 2, 5, 0, 3, 4);
    }

    private static void onTheSide() {
        pass(3, points(2, 0));
        pass(3, points(3, 0), 3, 0);
        pass(3, points(4, 0), 4, 0);
        pass(3, points(3, 0, 3, 5, 8, 5), 3, 0, 3, 5, 8, 5);
        pass(-3, points(-4, 0));
        pass(-3, points(-3, 0), -3, 0);
        pass(-3, points(-2, 0), -2, 0);
    }

    private static void goingRound() {
        pass(10, points(20, 0, 0, 0, 0, 40, 20, 40, 20, 30, 0, 10), 10, 5, 20, 0, 10, 0, 10, 40, 20, 40, 20, 30, 10, 20);
    }

    /** The first two cuts are at 11 + 86 * 7 / 20 and at 97 + -90 * -13 / -31. */
    private static void ordinaryCuts() {
        pass(10, points(3, 11, 23, 97, -8, 7), 10, 41, 23, 97, 10, 59);
        pass(10, points(-3, 7, 16, 11, 40, 50), 10, 20, 10, 9, 16, 11, 40, 50);
        pass(-100, points(211, -53, 400, 2000, -307, 1000), -100, 579, 211, -53, 400, 2000, -100, 1292);
    }

    private static void cutWhereAVertexIs() {
        pass(3, points(3, 0, 2, 1, 3, 2), 3, 0, 3, 0, 3, 2, 3, 2);
        pass(3, points(3, 7, -5, 1), 3, 7, 3, 7, 3, 7);
    }

    /** Two vertices, the first one not on the good side of 1: the cuts there and back are at the same place. */
    private static void thereAndBack(int b, int d, int cut) {
        pass(1, points(0, b, 3, d), 1, cut, 1, cut, 3, d);
    }

    private static void quotientAboveZero() {
        thereAndBack(0, 1, 0);
        thereAndBack(0, 2, 0);
        thereAndBack(0, 4, 1);
        thereAndBack(0, 5, 1);
        thereAndBack(10, 12, 10);
        thereAndBack(-10, -8, -10);
        thereAndBack(-1, 1, -1);
    }

    private static void quotientBelowZero() {
        thereAndBack(0, -1, -1);
        thereAndBack(0, -2, -1);
        thereAndBack(0, -4, -2);
        thereAndBack(0, -5, -2);
        thereAndBack(10, 8, 9);
        thereAndBack(-10, -12, -11);
        thereAndBack(1, -1, 0);
    }

    private static void quotientWhole() {
        thereAndBack(0, 0, 0);
        thereAndBack(7, 7, 7);
        thereAndBack(-7, -7, -7);
        thereAndBack(0, 3, 1);
        thereAndBack(0, -3, -1);
        thereAndBack(4, -2, 2);
        thereAndBack(-4, 2, -2);
    }

    private static void quotientOfFarPoints() {
        int low = -16384;
        int high = 16384;
        pass(high, points(low, low, high, high), high, high, high, high, high, high);
        pass(high, points(low, high, high, low), high, low, high, low, high, low);
        pass(16383, points(low, low, high, high), 16383, 16383, 16383, 16383, high, high);
        pass(16383, points(low, high, high, low), 16383, -16383, 16383, -16383, high, low);
        pass(-16383, points(low, high, high, 16383), -16383, 16383, -16383, 16383, high, 16383);
        pass(-16383, points(low, low, high, -16383), -16383, low, -16383, low, high, -16383);
        // Quotients that are one 32768th below 32401, and one below -32766.
        pass(16233, points(low, low, high, 16167), 16233, 16016, 16233, 16016, high, 16167);
        pass(16383, points(low, high, high, -16383), 16383, -16383, 16383, -16383, high, -16383);
        pass(0, points(low, low, high, 16383), 0, -1, 0, -1, high, 16383);
        pass(0, points(low, high, high, -16383), 0, 0, 0, 0, high, -16383);
    }
}
