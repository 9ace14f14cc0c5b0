/** Promise 2: clear. */
public final class ClearTest {
    public static void main(String[] args) {
        Check.sentence("all PIXELS have a colour", ClearTest::allPixels);
        Check.sentence("all PIXELS of the smallest and the largest frame", ClearTest::smallestAndLargest);
        Check.sentence("clear where there is nothing to clear away", ClearTest::nothingToClearAway);
        Check.sentence("clear over other colours", ClearTest::overOtherColours);
        Check.sentence("any number is a colour", ClearTest::anyColour);
        Check.sentence("clear changes no VERTICES", ClearTest::keepsTheVertices);
        Check.sentence("clear changes no WINDOW", ClearTest::keepsTheWindow);
        Check.finish();
    }

    private static void allPixels() {
        PolygonFrame frame = new PolygonFrame(3, 2, 4);
        frame.clear(7);
        Check.picture("clear(7)", frame, "777", "777");
        PolygonFrame tall = new PolygonFrame(2, 5, 4);
        tall.clear(8);
        Check.picture("clear(8)", tall, "88", "88", "88", "88", "88");
    }

    private static void smallestAndLargest() {
        PolygonFrame smallest = new PolygonFrame(1, 1, 3);
        smallest.clear(5);
        Check.picture("clear(5)", smallest, "5");
        PolygonFrame upper = new PolygonFrame(24, 24, 3);
        upper.clear(2);
        Check.lines("clear(2), upper half", upper, 24, 0, 11, 2);
        PolygonFrame lower = new PolygonFrame(24, 24, 3);
        lower.clear(2);
        Check.lines("clear(2), lower half", lower, 24, 12, 23, 2);
    }

    private static void nothingToClearAway() {
        PolygonFrame frame = new PolygonFrame(3, 2, 4);
        frame.clear(0);
        Check.picture("clear(0) on a new object", frame, "000", "000");
        Check.polygon("clear(0) on a new object", frame);
        frame.clear(4);
        frame.clear(4);
        Check.picture("clear(4) twice", frame, "444", "444");
    }

    private static void overOtherColours() {
        PolygonFrame frame = new PolygonFrame(3, 2, 4);
        Check.add(frame, 0, 0, 2, 0, 2, 1, 0, 1);
        frame.clear(7);
        frame.fill(5);
        Check.picture("fill(5)", frame, "557", "777");
        frame.clear(6);
        Check.picture("clear(6)", frame, "666", "666");
        frame.fill(5);
        frame.clear(0);
        Check.picture("clear(0)", frame, "000", "000");
    }

    private static void anyColour() {
        for (int colour : new int[] {-1, -2, 1, 65536, Integer.MIN_VALUE, Integer.MAX_VALUE}) {
            PolygonFrame frame = new PolygonFrame(2, 1, 3);
            frame.clear(colour);
            Check.due("clear(" + colour + "): pixel(0, 0)", frame.pixel(0, 0), colour);
            Check.due("clear(" + colour + "): pixel(1, 0)", frame.pixel(1, 0), colour);
        }
    }

    private static void keepsTheVertices() {
        PolygonFrame frame = Check.with(4, 0, 0, 2, 0, 2, 1, 0, 1);
        frame.clear(3);
        Check.polygon("clear(3)", frame, 0, 0, 2, 0, 2, 1, 0, 1);
    }

    private static void keepsTheWindow() {
        PolygonFrame frame = Check.with(4);
        Check.window(frame, -1, 2, 3, 5);
        frame.clear(3);
        Check.windowIs(frame, -1, 2, 3, 5);
    }
}
