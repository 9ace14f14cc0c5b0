/** The section "Terms", sentence by sentence; PassTest has its sentences about a PASS and a CUT. */
public final class TermsTest {
    public static void main(String[] args) {
        Check.sentence("COORDINATES are -16384 .. 16384: the x of a vertex", TermsTest::coordinatesOfX);
        Check.sentence("COORDINATES are -16384 .. 16384: the y of a vertex", TermsTest::coordinatesOfY);
        Check.sentence("COORDINATES are -16384 .. 16384: the window", TermsTest::coordinatesOfTheWindow);
        Check.sentence("VERTICES are numbered from 0 on", TermsTest::numbersOfVertices);
        Check.sentence("VERTICES are as many as told at most", TermsTest::asManyAsTold);
        Check.sentence("EDGES go from each one to the next", TermsTest::edgesToTheNext);
        Check.sentence("EDGES go from the last one to the first", TermsTest::edgeFromLastToFirst);
        Check.sentence("EDGES of one and of two VERTICES", TermsTest::edgesOfFewVertices);
        Check.sentence("INSIDE: EDGES that cross the line of y above x", TermsTest::crossings);
        Check.sentence("INSIDE: an end whose y is at most y", TermsTest::lowerEnd);
        Check.sentence("INSIDE: an end whose y is above y", TermsTest::upperEnd);
        Check.sentence("INSIDE: a place above x", TermsTest::placeAboveX);
        Check.sentence("INSIDE: a place above x, exactly", TermsTest::placeExactly);
        Check.sentence("INSIDE: exactly, for the farthest points", TermsTest::placeOfFarPoints);
        Check.sentence("INSIDE: the number is odd", TermsTest::oddNumber);
        Check.sentence("THE WINDOW is from (x0, y0) to (x1, y1)", TermsTest::windowFromTo);
        Check.sentence("THE WINDOW is with both its corners", TermsTest::windowWithItsCorners);
        Check.sentence("THE WINDOW is all COORDINATES at first", TermsTest::windowAtFirst);
        Check.sentence("THE FRAME has as many PIXELS as told, from (0, 0) on", TermsTest::pixelsAsTold);
        Check.sentence("THE FRAME's PIXELS are each of a colour", TermsTest::eachOfAColour);
        Check.sentence("THE FRAME's PIXELS are of colour 0 at first", TermsTest::coloursAtFirst);
        Check.sentence("an object is used for at most 512 calls", TermsTest::lastCall);
        Check.finish();
    }

    private static final int[] JUST_COORDINATES = {-16384, -16383, -1, 0, 1, 16383, 16384};
    private static final int[] JUST_NONE = {-16386, -16385, 16385, 16386};

    private static void coordinatesOfX() {
        for (int x : JUST_COORDINATES) {
            Check.polygon("x = " + x, Check.with(3, x, 5), x, 5);
        }
        for (int x : JUST_NONE) {
            Check.due("vertex(" + x + ", 5)", Check.with(3).vertex(x, 5), false);
        }
    }

    private static void coordinatesOfY() {
        for (int y : JUST_COORDINATES) {
            Check.polygon("y = " + y, Check.with(3, 5, y), 5, y);
        }
        for (int y : JUST_NONE) {
            Check.due("vertex(5, " + y + ")", Check.with(3).vertex(5, y), false);
        }
    }

    private static void coordinatesOfTheWindow() {
        PolygonFrame frame = Check.with(3);
        for (int at : JUST_COORDINATES) {
            Check.window(frame, at, 0, 16384, 0);
            Check.window(frame, 0, at, 0, 16384);
            Check.window(frame, -16384, 0, at, 0);
            Check.window(frame, 0, -16384, 0, at);
        }
        Check.due("x0 = -16385", frame.setClip(-16385, 0, 0, 0), false);
        Check.due("y0 = -16385", frame.setClip(0, -16385, 0, 0), false);
        Check.due("x1 = 16385", frame.setClip(0, 0, 16385, 0), false);
        Check.due("y1 = 16385", frame.setClip(0, 0, 0, 16385), false);
    }

    private static void numbersOfVertices() {
        PolygonFrame frame = Check.with(4, 7, -1, 8, -2, 9, -3);
        Check.due("vx(-1)", frame.vx(-1), -32768);
        Check.due("vx(0)", frame.vx(0), 7);
        Check.due("vy(0)", frame.vy(0), -1);
        Check.due("vx(2)", frame.vx(2), 9);
        Check.due("vy(2)", frame.vy(2), -3);
        Check.due("vx(3)", frame.vx(3), -32768);
    }

    private static void asManyAsTold() {
        for (int most = 3; most <= 60; most++) {
            PolygonFrame frame = Check.with(most);
            for (int i = 0; i < most; i++) {
                Check.due("of " + most + ": vertex " + i, frame.vertex(i, -i), true);
            }
            Check.due("of " + most + ": one more", frame.vertex(0, 0), false);
            Check.due("of " + most + ": vertices()", frame.vertices(), most);
            Check.due("of " + most + ": the last x", frame.vx(most - 1), most - 1);
            Check.due("of " + most + ": the last y", frame.vy(most - 1), 1 - most);
        }
    }

    private static void edgesToTheNext() {
        // In another order, the same four points are two triangles that meet in the middle.
        PolygonFrame square = Check.with(4, 0, 0, 8, 0, 8, 8, 0, 8);
        Check.inside(square, 1, 4, true);
        Check.inside(square, 6, 4, true);
        Check.inside(square, 4, 1, true);
        PolygonFrame crossed = Check.with(4, 0, 0, 8, 8, 8, 0, 0, 8);
        Check.inside(crossed, 1, 4, true);
        Check.inside(crossed, 6, 4, true);
        Check.inside(crossed, 4, 1, false);
    }

    private static void edgeFromLastToFirst() {
        PolygonFrame right = Check.with(4, 8, 8, 0, 8, 0, 0, 8, 0);
        Check.inside(right, 4, 4, true);
        Check.inside(right, -1, 4, false);
        PolygonFrame left = Check.with(4, 0, 0, 8, 0, 8, 8, 0, 8);
        Check.inside(left, 4, 4, true);
        Check.inside(left, -1, 4, false);
        PolygonFrame full = new PolygonFrame(5, 5, 3);
        Check.add(full, 4, 4, 0, 4, 4, 0);
        Check.due("fill(1)", full.fill(1), 6);
        // There were more vertices before, and no edge goes to them any more.
        PolygonFrame fewer = Check.with(4, 0, 0, 8, 0, 8, 8, 0, 8);
        fewer.begin();
        Check.add(fewer, 0, 0, 8, 0, 8, 8);
        Check.inside(fewer, 5, 2, true);
        Check.inside(fewer, 2, 5, false);
    }

    private static void edgesOfFewVertices() {
        PolygonFrame frame = Check.with(3, 4, 4);
        for (int x = 3; x <= 5; x++) {
            Check.inside(frame, x, 3, false);
            Check.inside(frame, x, 4, false);
        }
        Check.add(frame, 8, 8);
        for (int y = 3; y <= 8; y++) {
            Check.inside(frame, y - 1, y, false);
            Check.inside(frame, y, y, false);
            Check.inside(frame, y + 1, y, false);
        }
    }

    /** A triangle: at y = 10 its edges cross at 5 and 35, at y = 30 at 15 and 25. */
    private static void crossings() {
        PolygonFrame frame = Check.with(3, 0, 0, 40, 0, 20, 40);
        Check.inside(frame, 4, 10, false);
        Check.inside(frame, 6, 10, true);
        Check.inside(frame, 20, 10, true);
        Check.inside(frame, 34, 10, true);
        Check.inside(frame, 36, 10, false);
        Check.inside(frame, 14, 30, false);
        Check.inside(frame, 16, 30, true);
        Check.inside(frame, 24, 30, true);
        Check.inside(frame, 26, 30, false);
        Check.inside(frame, 20, -10, false);
        Check.inside(frame, 20, 50, false);
        Check.inside(frame, -10, 20, false);
    }

    /** A right side and then a left side has the end at y = 2, its vertices in this order and in the other one. */
    private static void lowerEnd() {
        PolygonFrame[] both = {Check.with(4, 0, 0, 8, 2, 8, 9, 0, 9), Check.with(4, 0, 9, 8, 9, 8, 2, 0, 0)};
        for (PolygonFrame frame : both) {
            Check.inside(frame, 7, 1, false);
            Check.inside(frame, 7, 2, true);
            Check.inside(frame, 7, 3, true);
            Check.inside(frame, 0, -1, false);
            Check.inside(frame, 3, 0, false);
            Check.inside(frame, -1, 0, false);
        }
        PolygonFrame[] mirrored = {Check.with(4, 0, 2, 8, 0, 8, 9, 0, 9), Check.with(4, 0, 9, 8, 9, 8, 0, 0, 2)};
        for (PolygonFrame frame : mirrored) {
            Check.inside(frame, 0, 1, false);
            Check.inside(frame, 0, 2, true);
            Check.inside(frame, -1, 1, false);
            Check.inside(frame, -1, 2, false);
            Check.inside(frame, -1, 3, false);
        }
        flatTop(Check.with(4, 0, 2, 8, 2, 8, 9, 0, 9));
        flatTop(Check.with(4, 0, 9, 8, 9, 8, 2, 0, 2));
    }

    private static void flatTop(PolygonFrame frame) {
        Check.inside(frame, 4, 1, false);
        Check.inside(frame, 4, 2, true);
        Check.inside(frame, 4, 3, true);
        Check.inside(frame, -1, 2, false);
    }

    private static void upperEnd() {
        PolygonFrame[] both = {Check.with(4, 0, 0, 8, 0, 8, 6, 0, 9), Check.with(4, 0, 9, 8, 6, 8, 0, 0, 0)};
        for (PolygonFrame frame : both) {
            Check.inside(frame, 7, 5, true);
            Check.inside(frame, 7, 6, true);
            Check.inside(frame, 8, 6, false);
            Check.inside(frame, 7, 7, false);
            Check.inside(frame, 0, 8, true);
            Check.inside(frame, 0, 9, false);
            Check.inside(frame, -1, 9, false);
        }
        flatBottom(Check.with(4, 0, 0, 8, 0, 8, 6, 0, 6));
        flatBottom(Check.with(4, 0, 6, 8, 6, 8, 0, 0, 0));
    }

    private static void flatBottom(PolygonFrame frame) {
        Check.inside(frame, 4, 5, true);
        Check.inside(frame, 4, 6, false);
        Check.inside(frame, 4, 7, false);
        Check.inside(frame, -1, 6, false);
    }

    private static void placeAboveX() {
        PolygonFrame upright = Check.with(4, 2, 0, 8, 0, 8, 9, 2, 9);
        Check.inside(upright, 1, 4, false);
        Check.inside(upright, 2, 4, true);
        Check.inside(upright, 3, 4, true);
        Check.inside(upright, 7, 4, true);
        Check.inside(upright, 8, 4, false);
        Check.inside(upright, 9, 4, false);
        // Slanted sides that cross y = 2 at the whole places 1 and 7.
        PolygonFrame slanted = Check.with(3, 4, -1, 8, 3, 0, 3);
        Check.inside(slanted, 0, 2, false);
        Check.inside(slanted, 1, 2, true);
        Check.inside(slanted, 6, 2, true);
        Check.inside(slanted, 7, 2, false);
    }

    /** Right sides that cross at 1/3 and 2/3, at -1/3 and -2/3; then the same as left sides. */
    private static void placeExactly() {
        PolygonFrame above = Check.with(3, 0, 0, 1, 3, -9, 3);
        PolygonFrame below = Check.with(3, 0, 0, -1, 3, -9, 3);
        PolygonFrame aboveAsLeft = Check.with(3, 0, 0, 1, 3, 9, 3);
        PolygonFrame belowAsLeft = Check.with(3, 0, 0, -1, 3, 9, 3);
        for (int y = 1; y <= 2; y++) {
            Check.inside(above, 0, y, true);
            Check.inside(above, 1, y, false);
            Check.inside(below, -1, y, true);
            Check.inside(below, 0, y, false);
            Check.inside(aboveAsLeft, 0, y, false);
            Check.inside(aboveAsLeft, 1, y, true);
            Check.inside(belowAsLeft, -1, y, false);
            Check.inside(belowAsLeft, 0, y, true);
        }
    }

    private static void placeOfFarPoints() {
        // A right side that crosses y = -16383 at 16383 and one 32768th, and y = 16383 one 32768th short of 16384.
        PolygonFrame narrow = Check.with(4, 16383, -16384, 16384, 16384, -16384, 16384, -16384, -16384);
        Check.inside(narrow, 16382, -16384, true);
        Check.inside(narrow, 16383, -16384, false);
        Check.inside(narrow, 16383, -16383, true);
        Check.inside(narrow, 16384, -16383, false);
        Check.inside(narrow, 16383, 16383, true);
        Check.inside(narrow, 16384, 16383, false);
        // A left side from corner to corner, and the other one.
        PolygonFrame down = Check.with(3, -16384, -16384, 16384, -16384, 16384, 16384);
        PolygonFrame up = Check.with(3, -16384, 16384, 16384, -16384, 16384, 16384);
        for (int y : new int[] {-16383, -1, 0, 1, 16383}) {
            Check.inside(down, y - 1, y, false);
            Check.inside(down, y, y, true);
            Check.inside(up, -y - 1, y, false);
            Check.inside(up, -y, y, true);
        }
        // From (-16384, -16384) to (16384, 16383), y = 0 is crossed half a step and a bit above 0.
        PolygonFrame steep = Check.with(3, -16384, -16384, 16384, 16383, -16384, 16383);
        Check.inside(steep, 0, 0, true);
        Check.inside(steep, 1, 0, false);
        Check.inside(steep, -1, -1, true);
        Check.inside(steep, 0, -1, false);
    }

    /** Four upright bars that hang together below: as many as eight crossings above x. */
    private static void oddNumber() {
        PolygonFrame comb = Check.with(16, 0, 0, 1, 0, 1, 5, 2, 5, 2, 0, 3, 0, 3, 5, 4, 5,
                4, 0, 5, 0, 5, 5, 6, 5, 6, 0, 7, 0, 7, 9, 0, 9);
        for (int x = -2; x <= 8; x++) {
            Check.inside(comb, x, 2, x >= 0 && x <= 6 && x % 2 == 0);
            Check.inside(comb, x, 7, x >= 0 && x <= 6);
        }
        // Twice round the same square: two crossings at each place.
        PolygonFrame twice = Check.with(8, 0, 0, 4, 0, 4, 4, 0, 4, 0, 0, 4, 0, 4, 4, 0, 4);
        Check.inside(twice, 2, 2, false);
        PolygonFrame thrice = Check.with(12, 0, 0, 4, 0, 4, 4, 0, 4, 0, 0, 4, 0, 4, 4, 0, 4, 0, 0, 4, 0, 4, 4, 0, 4);
        Check.inside(thrice, 2, 2, true);
    }

    /** Points well within are kept, and points well beyond one side or two are not. */
    private static void windowFromTo() {
        for (int x : new int[] {-40, -15, 20}) {
            for (int y : new int[] {-9, 12, 33}) {
                PolygonFrame frame = Check.with(3, x, y);
                Check.window(frame, -20, 3, -10, 25);
                boolean within = x == -15 && y == 12;
                Check.due("(" + x + ", " + y + ") in -20, 3 .. -10, 25: clip()", frame.clip(), within ? 1 : 0);
            }
        }
        PolygonFrame around = Check.with(4);
        Check.window(around, -20, 3, -10, 25);
        Check.windowIs(around, -20, 3, -10, 25);
    }

    private static void windowWithItsCorners() {
        int[][] corners = {{2, 3}, {5, 3}, {5, 7}, {2, 7}};
        for (int[] corner : corners) {
            onePoint(corner[0], corner[1], true);
        }
        for (int x = 2; x <= 5; x++) {
            onePoint(x, 2, false);
            onePoint(x, 3, true);
            onePoint(x, 7, true);
            onePoint(x, 8, false);
        }
        for (int y = 3; y <= 7; y++) {
            onePoint(1, y, false);
            onePoint(2, y, true);
            onePoint(5, y, true);
            onePoint(6, y, false);
        }
    }

    private static void onePoint(int x, int y, boolean within) {
        PolygonFrame frame = Check.with(3, x, y);
        Check.window(frame, 2, 3, 5, 7);
        Check.due("(" + x + ", " + y + ") in 2, 3 .. 5, 7: clip()", frame.clip(), within ? 1 : 0);
    }

    private static void windowAtFirst() {
        Check.clipped("x = -16384", Check.with(3, -16384, 0), -16384, 0);
        Check.clipped("x = 16384", Check.with(3, 16384, 0), 16384, 0);
        Check.clipped("y = -16384", Check.with(3, 0, -16384), 0, -16384);
        Check.clipped("y = 16384", Check.with(3, 0, 16384), 0, 16384);
        int[] square = {-16384, -16384, 16384, -16384, 16384, 16384, -16384, 16384};
        Check.clipped("all corners", Check.with(4, square), square);
    }

    private static void pixelsAsTold() {
        for (int size = 1; size <= 24; size++) {
            PolygonFrame wide = new PolygonFrame(size, 25 - size, 3);
            Check.due("width " + size + ": first", wide.pixel(0, 0), 0);
            Check.due("width " + size + ": left of the first", wide.pixel(-1, 0), -1);
            Check.due("width " + size + ": above the first", wide.pixel(0, -1), -1);
            Check.due("width " + size + ": last", wide.pixel(size - 1, 24 - size), 0);
            Check.due("width " + size + ": right of the last", wide.pixel(size, 24 - size), -1);
            Check.due("height " + (25 - size) + ": below the last", wide.pixel(size - 1, 25 - size), -1);
        }
    }

    private static void eachOfAColour() {
        PolygonFrame frame = new PolygonFrame(3, 2, 4);
        frame.clear(1);
        for (int at = 0; at < 6; at++) {
            int x = at % 3;
            int y = at / 3;
            frame.begin();
            Check.add(frame, x, y, x + 1, y, x + 1, y + 1, x, y + 1);
            Check.due("fill(" + (at + 2) + ")", frame.fill(at + 2), 1);
        }
        Check.picture("six colours", frame, "234", "567");
    }

    private static void coloursAtFirst() {
        Check.picture("1 by 1", new PolygonFrame(1, 1, 3), "0");
        Check.picture("4 by 2", new PolygonFrame(4, 2, 3), "0000", "0000");
        Check.lines("upper half", new PolygonFrame(24, 24, 60), 24, 0, 11, 0);
        Check.lines("lower half", new PolygonFrame(24, 24, 60), 24, 12, 23, 0);
    }

    private static void lastCall() {
        PolygonFrame frame = new PolygonFrame(2, 2, 3);
        frame.vertex(0, 0);
        frame.vertex(2, 0);
        frame.vertex(0, 2);
        for (int call = 4; call < 512; call++) {
            Check.due("call " + call + ": fill(" + call + ")", frame.fill(call), 3);
        }
        Check.due("call 512: pixel(0, 0)", frame.pixel(0, 0), 511);
        lastVertex();
        lastClip();
    }

    private static void lastVertex() {
        PolygonFrame frame = Check.with(60);
        for (int call = 1; call <= 507; call++) {
            if (call % 50 == 0) {
                frame.begin();
            } else {
                Check.due("call " + call + ": vertex", frame.vertex(call, -call), true);
            }
        }
        Check.due("call 508: vertex", frame.vertex(508, -508), true);
        Check.due("call 509: vertices()", frame.vertices(), 8);
        Check.due("call 510: vx(7)", frame.vx(7), 508);
        Check.due("call 511: vy(7)", frame.vy(7), -508);
        Check.due("call 512: vertex", frame.vertex(512, -512), true);
    }

    /** Each window is narrower than the one before, by one at its left side. */
    private static void lastClip() {
        PolygonFrame frame = Check.with(4, 0, 0, 999, 0, 999, 999, 0, 999);
        for (int x0 = 1; x0 <= 254; x0++) {
            Check.window(frame, x0, 0, 999, 999);
            Check.due("x0 = " + x0 + ": clip()", frame.clip(), 4);
        }
    }
}
