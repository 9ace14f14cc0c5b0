/** Promise 10: inside. Its words are in TermsTest too, end by end and place by place. */
public final class InsideTest {
    public static void main(String[] args) {
        Check.sentence("INSIDE", InsideTest::ordinary);
        Check.sentence("no VERTICES", InsideTest::none);
        Check.sentence("one VERTEX, and two", InsideTest::oneAndTwo);
        Check.sentence("an EDGE along the line of y", InsideTest::edgeAlongTheLine);
        Check.sentence("VERTICES on the line of y", InsideTest::verticesOnTheLine);
        Check.sentence("a place at x itself", InsideTest::placeAtX);
        Check.sentence("points outside of THE FRAME", InsideTest::outsideOfTheFrame);
        Check.sentence("points that are no COORDINATES", InsideTest::noCoordinates);
        Check.sentence("points outside of THE WINDOW", InsideTest::outsideOfTheWindow);
        Check.sentence("an odd number of crossings", InsideTest::star);
        Check.sentence("inside changes nothing", InsideTest::changesNothing);
        Check.finish();
    }

    /** Left and upper sides are in, right and lower ones are not. */
    private static void ordinary() {
        PolygonFrame frame = Check.with(4, -2, -3, 4, -3, 4, 5, -2, 5);
        for (int y = -5; y <= 7; y++) {
            for (int x = -4; x <= 6; x++) {
                Check.inside(frame, x, y, x >= -2 && x < 4 && y >= -3 && y < 5);
            }
        }
    }

    private static void none() {
        PolygonFrame frame = Check.with(3);
        Check.inside(frame, 0, 0, false);
        Check.inside(frame, -1, -1, false);
        Check.inside(frame, -16384, 16383, false);
        Check.add(frame, 0, 0, 9, 0, 0, 9);
        Check.inside(frame, 1, 1, true);
        frame.begin();
        Check.inside(frame, 1, 1, false);
    }

    private static void oneAndTwo() {
        PolygonFrame frame = Check.with(3, 3, 3);
        for (int x = 2; x <= 4; x++) {
            Check.inside(frame, x, 2, false);
            Check.inside(frame, x, 3, false);
            Check.inside(frame, x, 4, false);
        }
        Check.add(frame, 6, 6);
        for (int x = 2; x <= 6; x++) {
            Check.inside(frame, x, 3, false);
            Check.inside(frame, x, 4, false);
            Check.inside(frame, x, 6, false);
        }
    }

    /** A step, whose middle edge lies along y = 2 between 3 and 6; then the step the other way round. */
    private static void edgeAlongTheLine() {
        PolygonFrame wider = Check.with(6, 0, 0, 3, 0, 3, 2, 6, 2, 6, 4, 0, 4);
        PolygonFrame narrower = Check.with(6, 0, 0, 6, 0, 6, 2, 3, 2, 3, 4, 0, 4);
        for (int x = -1; x <= 7; x++) {
            Check.inside(wider, x, -1, false);
            Check.inside(wider, x, 0, x >= 0 && x < 3);
            Check.inside(wider, x, 1, x >= 0 && x < 3);
            Check.inside(wider, x, 2, x >= 0 && x < 6);
            Check.inside(wider, x, 4, false);
            Check.inside(narrower, x, 1, x >= 0 && x < 6);
            Check.inside(narrower, x, 2, x >= 0 && x < 3);
            Check.inside(narrower, x, 4, false);
        }
        PolygonFrame flat = Check.with(4, 0, 2, 5, 2, 9, 2);
        for (int x = -1; x <= 10; x++) {
            Check.inside(flat, x, 2, false);
        }
    }

    private static void verticesOnTheLine() {
        PolygonFrame diamond = Check.with(4, 0, 0, 4, 4, 0, 8, -4, 4);
        for (int x = -6; x <= 6; x++) {
            Check.inside(diamond, x, 0, false);
            Check.inside(diamond, x, 4, x >= -4 && x < 4);
            Check.inside(diamond, x, 8, false);
        }
        // Notches whose points touch y = 4 from below and from above.
        PolygonFrame fromBelow = Check.with(5, 0, 0, 8, 0, 8, 8, 4, 4, 0, 8);
        PolygonFrame fromAbove = Check.with(5, 0, 0, 4, 4, 8, 0, 8, 8, 0, 8);
        for (int x = -1; x <= 9; x++) {
            Check.inside(fromBelow, x, 4, x >= 0 && x < 8);
            Check.inside(fromAbove, x, 4, x >= 0 && x < 8);
        }
    }

    private static void placeAtX() {
        PolygonFrame frame = Check.with(3, 0, 4, 4, 0, -4, 0);
        Check.inside(frame, -3, 2, false);
        Check.inside(frame, -2, 2, true);
        Check.inside(frame, -1, 2, true);
        Check.inside(frame, 1, 2, true);
        Check.inside(frame, 2, 2, false);
        Check.inside(frame, 3, 2, false);
        PolygonFrame back = Check.with(3, -4, 0, 4, 0, 0, 4);
        Check.inside(back, -3, 2, false);
        Check.inside(back, -2, 2, true);
        Check.inside(back, 1, 2, true);
        Check.inside(back, 2, 2, false);
    }

    private static void outsideOfTheFrame() {
        PolygonFrame frame = new PolygonFrame(3, 2, 4);
        Check.add(frame, -50, -50, 50, -50, 50, 50, -50, 50);
        int[][] beside = {{-1, 0}, {0, -1}, {3, 0}, {2, 2}, {3, 2}, {24, 24}, {-50, -50}, {49, 49}};
        for (int[] point : beside) {
            Check.inside(frame, point[0], point[1], true);
        }
        Check.inside(frame, -51, 0, false);
        Check.inside(frame, 50, 0, false);
        Check.inside(frame, 0, -51, false);
        Check.inside(frame, 0, 50, false);
    }

    private static void noCoordinates() {
        PolygonFrame frame = Check.with(4, -16384, -16384, 16384, -16384, 16384, 16384, -16384, 16384);
        int[] far = {16384, 16385, -16385, 32768, -32769, 65536, Integer.MAX_VALUE, Integer.MIN_VALUE};
        for (int value : far) {
            Check.inside(frame, value, 0, false);
            Check.inside(frame, 0, value, false);
            Check.inside(frame, value, value, false);
        }
        Check.inside(frame, -16384, -16384, true);
        Check.inside(frame, 16383, 16383, true);
    }

    private static void outsideOfTheWindow() {
        PolygonFrame frame = Check.with(4, 0, 0, 9, 0, 9, 9, 0, 9);
        Check.window(frame, 2, 2, 3, 3);
        Check.inside(frame, 1, 1, true);
        Check.inside(frame, 4, 4, true);
        Check.due("clip()", frame.clip(), 4);
        Check.inside(frame, 1, 1, false);
        Check.inside(frame, 2, 2, true);
        Check.inside(frame, 3, 3, false);
    }

    /** A star: its middle is crossed twice on the way out. */
    private static void star() {
        PolygonFrame frame = Check.with(5, 50, 0, 80, 100, 0, 40, 100, 40, 20, 100);
        Check.inside(frame, 50, 60, false);
        Check.inside(frame, 50, 20, true);
        Check.inside(frame, 30, 85, true);
        Check.inside(frame, 70, 85, true);
        Check.inside(frame, 15, 45, true);
        Check.inside(frame, 85, 45, true);
        Check.inside(frame, 50, 95, false);
        Check.inside(frame, 20, 20, false);
    }

    private static void changesNothing() {
        PolygonFrame frame = new PolygonFrame(2, 2, 4);
        Check.add(frame, 0, 0, 2, 0, 2, 2, 0, 2);
        frame.clear(3);
        Check.inside(frame, 0, 0, true);
        Check.inside(frame, 0, 0, true);
        Check.polygon("inside", frame, 0, 0, 2, 0, 2, 2, 0, 2);
        Check.picture("inside", frame, "33", "33");
        Check.window(frame, -1, 2, 3, 5);
        Check.inside(frame, 1, 1, true);
        Check.inside(frame, 2, 1, false);
        Check.windowIs(frame, -1, 2, 3, 5);
    }
}
