/** Promise 9: fill. */
public final class FillTest {
    public static void main(String[] args) {
        Check.sentence("all PIXELS INSIDE have a colour then", FillTest::ordinary);
        Check.sentence("how many, also if they had the colour before", FillTest::coloursAgain);
        Check.sentence("no VERTICES", FillTest::none);
        Check.sentence("one VERTEX, and two", FillTest::oneAndTwo);
        Check.sentence("an EDGE along the first line", FillTest::edgeAlongTheFirstLine);
        Check.sentence("an EDGE along the line behind the last", FillTest::edgeAlongTheLastLine);
        Check.sentence("an EDGE along a line in the middle", FillTest::edgeInTheMiddle);
        Check.sentence("a place at x itself", FillTest::placeAtX);
        Check.sentence("a place between two x", FillTest::placeBetween);
        Check.sentence("points outside of THE FRAME: all round", FillTest::allRound);
        Check.sentence("points outside of THE FRAME: left", () -> outside(-9, -9, 0, 9));
        Check.sentence("points outside of THE FRAME: right", () -> outside(3, -9, 9, 9));
        Check.sentence("points outside of THE FRAME: above", () -> outside(-9, -9, 9, 0));
        Check.sentence("points outside of THE FRAME: below", () -> outside(-9, 2, 9, 9));
        Check.sentence("points outside of THE FRAME: over its corners", FillTest::corners);
        Check.sentence("points outside of THE FRAME: the farthest", FillTest::farthest);
        Check.sentence("the smallest and the largest frame", FillTest::smallestAndLargest);
        Check.sentence("an even number of crossings", FillTest::evenNumber);
        Check.sentence("any number is a colour", FillTest::anyColour);
        Check.sentence("PIXELS that are not INSIDE keep their colours", FillTest::keepsTheOthers);
        Check.sentence("fill changes no VERTICES", FillTest::keepsTheVertices);
        Check.sentence("fill changes no WINDOW", FillTest::keepsTheWindow);
        Check.sentence("INSIDE is the same for fill and inside", FillTest::agreesWithInside);
        Check.finish();
    }

    private static void filled(PolygonFrame frame, int colour, int count, String... lines) {
        Check.due("fill(" + colour + ")", frame.fill(colour), count);
        Check.picture("fill(" + colour + ")", frame, lines);
    }

    private static PolygonFrame frame(int w, int h, int... points) {
        PolygonFrame frame = new PolygonFrame(w, h, 16);
        Check.add(frame, points);
        return frame;
    }

    private static void ordinary() {
        filled(frame(10, 10, 1, 1, 8, 2, 6, 9, 2, 7), 3, 37,
                "0000000000",
                "0000000000",
                "0033333300",
                "0033333300",
                "0033333300",
                "0033333300",
                "0033333000",
                "0033333000",
                "0000333000",
                "0000000000");
    }

    private static void coloursAgain() {
        PolygonFrame frame = frame(4, 3, 0, 0, 3, 0, 3, 2, 0, 2);
        filled(frame, 4, 6, "4440", "4440", "0000");
        filled(frame, 4, 6, "4440", "4440", "0000");
        frame.begin();
        Check.add(frame, 2, 1, 4, 1, 4, 3, 2, 3);
        filled(frame, 7, 4, "4440", "4477", "0077");
        filled(frame, 0, 4, "4440", "4400", "0000");
    }

    private static void none() {
        PolygonFrame frame = frame(3, 2);
        filled(frame, 1, 0, "000", "000");
        Check.add(frame, 0, 0, 3, 0, 3, 2, 0, 2);
        frame.begin();
        filled(frame, 1, 0, "000", "000");
    }

    private static void oneAndTwo() {
        PolygonFrame frame = frame(3, 3, 1, 1);
        filled(frame, 1, 0, "000", "000", "000");
        Check.add(frame, 3, 3);
        filled(frame, 1, 0, "000", "000", "000");
    }

    private static void edgeAlongTheFirstLine() {
        filled(frame(4, 4, 0, 1, 3, 1, 3, 4, 0, 4), 1, 9, "0000", "1110", "1110", "1110");
        filled(frame(4, 2, 0, 0, 3, 0, 3, 1, 0, 1), 1, 3, "1110", "0000");
    }

    private static void edgeAlongTheLastLine() {
        filled(frame(4, 4, 0, 0, 3, 0, 3, 2, 0, 2), 1, 6, "1110", "1110", "0000", "0000");
        filled(frame(4, 2, 0, 0, 3, 0, 3, 2, 0, 2), 1, 6, "1110", "1110");
        filled(frame(4, 2, 0, 1, 3, 1), 1, 0, "0000", "0000");
    }

    private static void edgeInTheMiddle() {
        filled(frame(7, 4, 0, 0, 3, 0, 3, 2, 6, 2, 6, 4, 0, 4), 1, 18, "1110000", "1110000", "1111110", "1111110");
        filled(frame(7, 4, 0, 0, 6, 0, 6, 2, 3, 2, 3, 4, 0, 4), 1, 18, "1111110", "1111110", "1110000", "1110000");
        filled(frame(7, 4, 0, 0, 6, 0, 6, 4, 3, 4, 3, 2, 0, 2), 1, 18, "1111110", "1111110", "0001110", "0001110");
    }

    private static void placeAtX() {
        filled(frame(5, 1, 1, 0, 3, 0, 3, 1, 1, 1), 1, 2, "01100");
        filled(frame(5, 1, 0, 0, 5, 0, 5, 1, 0, 1), 1, 5, "11111");
        filled(frame(5, 1, 2, 0, 2, 0, 2, 1, 2, 1), 1, 0, "00000");
        // Slanted: the left side is at 0, 1, 2, and the right side at 6, 5, 4.
        filled(frame(7, 3, 0, 0, 6, 0, 3, 3), 1, 12, "1111110", "0111100", "0011000");
    }

    private static void placeBetween() {
        // The right side is at 1, 4/3, 5/3, and then the left side is.
        filled(frame(4, 3, 0, 0, 1, 0, 2, 3, 0, 3), 1, 5, "1000", "1100", "1100");
        filled(frame(4, 3, 1, 0, 4, 0, 4, 3, 2, 3), 1, 7, "0111", "0011", "0011");
    }

    private static void allRound() {
        filled(frame(3, 2, -5, -5, 9, -5, 9, 9, -5, 9), 8, 6, "888", "888");
    }

    /** A square that just does not hold a pixel of a frame of 3 by 2. */
    private static void outside(int x0, int y0, int x1, int y1) {
        filled(frame(3, 2, x0, y0, x1, y0, x1, y1, x0, y1), 5, 0, "000", "000");
    }

    private static void corners() {
        filled(frame(3, 2, -9, -9, 1, -9, 1, 1, -9, 1), 5, 1, "500", "000");
        filled(frame(3, 2, 2, -9, 9, -9, 9, 1, 2, 1), 5, 1, "005", "000");
        filled(frame(3, 2, 2, 1, 9, 1, 9, 9, 2, 9), 5, 1, "000", "005");
        filled(frame(3, 2, -9, 1, 1, 1, 1, 9, -9, 9), 5, 1, "000", "500");
    }

    private static void farthest() {
        int[] square = {-16384, -16384, 16384, -16384, 16384, 16384, -16384, 16384};
        filled(frame(3, 2, square), 5, 6, "555", "555");
        filled(frame(3, 3, -16384, -16384, 16384, 16384, -16384, 16384), 5, 3, "000", "500", "550");
        filled(frame(3, 3, -16384, -16384, 16384, -16384, 16384, 16384), 5, 6, "555", "055", "005");
    }

    private static void smallestAndLargest() {
        filled(frame(1, 1, 0, 0, 1, 0, 1, 1, 0, 1), 5, 1, "5");
        int[] square = {0, 0, 24, 0, 24, 24, 0, 24};
        PolygonFrame upper = frame(24, 24, square);
        Check.due("fill(5)", upper.fill(5), 576);
        Check.lines("upper half", upper, 24, 0, 11, 5);
        PolygonFrame lower = frame(24, 24, square);
        Check.due("fill(5)", lower.fill(5), 576);
        Check.lines("lower half", lower, 24, 12, 23, 5);
    }

    private static void evenNumber() {
        filled(frame(6, 5, 0, 0, 4, 0, 4, 4, 0, 4, 0, 0, 2, 0, 2, 2, 0, 2), 1, 12,
                "001100", "001100", "111100", "111100", "000000");
    }

    private static void anyColour() {
        for (int colour : new int[] {-1, -5, 0, 65536, Integer.MIN_VALUE, Integer.MAX_VALUE}) {
            PolygonFrame frame = frame(2, 2, 0, 0, 1, 0, 1, 1, 0, 1);
            Check.due("fill(" + colour + ")", frame.fill(colour), 1);
            Check.due("pixel(0, 0)", frame.pixel(0, 0), colour);
            Check.due("pixel(1, 0)", frame.pixel(1, 0), 0);
        }
    }

    private static void keepsTheVertices() {
        PolygonFrame frame = frame(3, 3, 0, 0, 2, 0, 2, 2, 0, 2);
        frame.fill(8);
        Check.polygon("fill(8)", frame, 0, 0, 2, 0, 2, 2, 0, 2);
    }

    private static void keepsTheOthers() {
        PolygonFrame frame = frame(4, 3, 1, 0, 3, 0, 3, 2, 1, 2);
        frame.clear(9);
        filled(frame, 2, 4, "9229", "9229", "9999");
        frame.begin();
        Check.add(frame, 0, 1, 2, 1, 2, 3, 0, 3);
        filled(frame, 5, 4, "9229", "5529", "5599");
    }

    private static void keepsTheWindow() {
        PolygonFrame frame = frame(3, 3, 0, 0, 2, 0, 2, 2, 0, 2);
        Check.window(frame, -1, 2, 3, 5);
        Check.due("fill(8)", frame.fill(8), 4);
        Check.windowIs(frame, -1, 2, 3, 5);
    }

    private static void agreesWithInside() {
        PolygonFrame frame = frame(13, 11, -3, -2, 9, 1, 2, 4, 15, 8, 4, 14, 6, 5, -1, 9);
        int filled = frame.fill(1);
        int inside = 0;
        for (int y = 0; y < 11; y++) {
            for (int x = 0; x < 13; x++) {
                boolean in = frame.inside(x, y);
                inside += in ? 1 : 0;
                Check.due("pixel(" + x + ", " + y + ")", frame.pixel(x, y), in ? 1 : 0);
            }
        }
        Check.due("how many", filled, inside);
    }
}
