/** Promise 11: pixel. */
public final class PixelTest {
    private static final int[] BELOW_ZERO = {-1, -2, -3, -4, -24, -65536, Integer.MIN_VALUE};

    public static void main(String[] args) {
        Check.sentence("the colour of a PIXEL", PixelTest::eachItsOwn);
        Check.sentence("-1 if there is none: left of THE FRAME", PixelTest::left);
        Check.sentence("-1 if there is none: right of THE FRAME", PixelTest::right);
        Check.sentence("-1 if there is none: above THE FRAME", PixelTest::above);
        Check.sentence("-1 if there is none: below THE FRAME", PixelTest::below);
        Check.sentence("-1 if there is none: beyond its corners", PixelTest::corners);
        Check.sentence("-1 if there is none: the smallest and the largest frame", PixelTest::smallestAndLargest);
        Check.sentence("pixel changes nothing", PixelTest::changesNothing);
        Check.finish();
    }

    private static PolygonFrame frame() {
        PolygonFrame frame = new PolygonFrame(4, 3, 4);
        frame.clear(7);
        return frame;
    }

    private static void none(PolygonFrame frame, int x, int y) {
        Check.due("pixel(" + x + ", " + y + ")", frame.pixel(x, y), -1);
    }

    private static void eachItsOwn() {
        PolygonFrame frame = new PolygonFrame(4, 3, 4);
        for (int y = 0; y < 3; y++) {
            for (int x = 0; x < 4; x++) {
                frame.begin();
                Check.add(frame, x, y, x + 1, y, x + 1, y + 1, x, y + 1);
                Check.due("fill", frame.fill(100 + 10 * y + x), 1);
            }
        }
        for (int y = 0; y < 3; y++) {
            for (int x = 0; x < 4; x++) {
                Check.due("pixel(" + x + ", " + y + ")", frame.pixel(x, y), 100 + 10 * y + x);
            }
        }
    }

    private static void left() {
        PolygonFrame frame = frame();
        for (int y = 0; y < 3; y++) {
            Check.due("pixel(0, " + y + ")", frame.pixel(0, y), 7);
            for (int x : BELOW_ZERO) {
                none(frame, x, y);
            }
        }
    }

    private static void right() {
        PolygonFrame frame = frame();
        for (int y = 0; y < 3; y++) {
            Check.due("pixel(3, " + y + ")", frame.pixel(3, y), 7);
            for (int x : new int[] {4, 5, 8, 23, 24, 65536, Integer.MAX_VALUE}) {
                none(frame, x, y);
            }
        }
    }

    private static void above() {
        PolygonFrame frame = frame();
        for (int x = 0; x < 4; x++) {
            Check.due("pixel(" + x + ", 0)", frame.pixel(x, 0), 7);
            for (int y : BELOW_ZERO) {
                none(frame, x, y);
            }
        }
    }

    private static void below() {
        PolygonFrame frame = frame();
        for (int x = 0; x < 4; x++) {
            Check.due("pixel(" + x + ", 2)", frame.pixel(x, 2), 7);
            for (int y : new int[] {3, 4, 6, 23, 24, 65536, 1 << 30, Integer.MAX_VALUE}) {
                none(frame, x, y);
            }
        }
    }

    /** In one long row of all lines some of these would be places of pixels. */
    private static void corners() {
        PolygonFrame frame = frame();
        none(frame, -1, -1);
        none(frame, 4, -1);
        none(frame, 5, -1);
        none(frame, -1, 3);
        none(frame, 4, 3);
        none(frame, Integer.MIN_VALUE, Integer.MIN_VALUE);
        none(frame, Integer.MAX_VALUE, Integer.MAX_VALUE);
    }

    private static void smallestAndLargest() {
        PolygonFrame smallest = new PolygonFrame(1, 1, 3);
        smallest.clear(7);
        Check.picture("smallest", smallest, "7");
        none(smallest, -1, 0);
        none(smallest, 0, -1);
        PolygonFrame largest = new PolygonFrame(24, 24, 3);
        largest.clear(7);
        Check.due("pixel(23, 23)", largest.pixel(23, 23), 7);
        none(largest, 24, 23);
        none(largest, 23, 24);
        none(largest, 24, 0);
        none(largest, 0, 24);
    }

    private static void changesNothing() {
        PolygonFrame frame = frame();
        Check.add(frame, 1, 1);
        none(frame, 4, 3);
        Check.picture("pixel", frame, "7777", "7777", "7777");
        Check.polygon("pixel", frame, 1, 1);
        Check.window(frame, -1, 2, 3, 5);
        Check.due("pixel(1, 1)", frame.pixel(1, 1), 7);
        none(frame, 4, 3);
        Check.windowIs(frame, -1, 2, 3, 5);
    }
}
