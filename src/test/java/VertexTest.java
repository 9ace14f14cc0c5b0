/** Promise 4: vertex. */
public final class VertexTest {
    private static final int[] TOO_LOW = {-16385, -16386, -32768, -32769, -65536, Integer.MIN_VALUE};
    private static final int[] TOO_HIGH = {16385, 16386, 32767, 32768, 65536, Integer.MAX_VALUE};

    public static void main(String[] args) {
        Check.sentence("a VERTEX more, behind the others", VertexTest::oneMore);
        Check.sentence("the same point may be a VERTEX again", VertexTest::samePoint);
        Check.sentence("false if there are as many as there may be", VertexTest::full);
        Check.sentence("false if there are as many as there may be, behind a clip", VertexTest::fullBehindAClip);
        Check.sentence("false if x is no COORDINATE: too small", () -> xIsRefused(TOO_LOW));
        Check.sentence("false if x is no COORDINATE: too large", () -> xIsRefused(TOO_HIGH));
        Check.sentence("false if y is no COORDINATE: too small", () -> yIsRefused(TOO_LOW));
        Check.sentence("false if y is no COORDINATE: too large", () -> yIsRefused(TOO_HIGH));
        Check.sentence("false for several reasons at once", VertexTest::severalReasons);
        Check.sentence("the farthest COORDINATES are taken", VertexTest::farthest);
        Check.sentence("a VERTEX may be beyond THE WINDOW and THE FRAME", VertexTest::beyondTheWindow);
        Check.sentence("vertex changes no PIXELS", VertexTest::keepsThePixels);
        Check.sentence("vertex changes no WINDOW", VertexTest::keepsTheWindow);
        Check.finish();
    }

    private static void oneMore() {
        PolygonFrame frame = Check.with(5);
        Check.add(frame, 5, -6);
        Check.polygon("one", frame, 5, -6);
        Check.add(frame, -7, 8);
        Check.polygon("two", frame, 5, -6, -7, 8);
        Check.add(frame, 0, 0);
        Check.polygon("three", frame, 5, -6, -7, 8, 0, 0);
    }

    private static void samePoint() {
        Check.polygon("thrice", Check.with(4, 1, 2, 1, 2, 1, 2), 1, 2, 1, 2, 1, 2);
    }

    private static void full() {
        for (int most : new int[] {3, 4, 59, 60}) {
            PolygonFrame frame = Check.with(most);
            for (int i = 0; i < most - 1; i++) {
                frame.vertex(i, 100 + i);
            }
            Check.due("one fewer of " + most + ": vertices()", frame.vertices(), most - 1);
            Check.due("the last of " + most, frame.vertex(most - 1, 99 + most), true);
            Check.due("one more than " + most, frame.vertex(-1, -2), false);
            Check.due("two more than " + most, frame.vertex(-3, -4), false);
            Check.due("still " + most + ": vertices()", frame.vertices(), most);
            for (int i = 0; i < most; i++) {
                Check.due("still vx(" + i + ")", frame.vx(i), i);
                Check.due("still vy(" + i + ")", frame.vy(i), 100 + i);
            }
        }
    }

    private static void fullBehindAClip() {
        PolygonFrame frame = Check.with(4, 1, 1, 2, 1, 9, 9);
        Check.window(frame, 0, 0, 5, 9);
        Check.clipped("clip", frame, 5, 5, 1, 1, 2, 1, 5, 4);
        Check.due("one more than the clip made", frame.vertex(3, 3), false);
        Check.polygon("still four", frame, 5, 5, 1, 1, 2, 1, 5, 4);
        PolygonFrame fewer = Check.with(3, 1, 1, 2, 1);
        Check.clipped("clip of two", fewer, 1, 1, 2, 1);
        Check.add(fewer, 2, 2);
        Check.polygon("a third", fewer, 1, 1, 2, 1, 2, 2);
        Check.due("a fourth", fewer.vertex(3, 3), false);
    }

    private static void xIsRefused(int[] wrong) {
        for (int x : wrong) {
            PolygonFrame frame = Check.with(3, 5, -6);
            Check.due("vertex(" + x + ", 0)", frame.vertex(x, 0), false);
            Check.polygon("vertex(" + x + ", 0)", frame, 5, -6);
        }
    }

    private static void yIsRefused(int[] wrong) {
        for (int y : wrong) {
            PolygonFrame frame = Check.with(3, 5, -6);
            Check.due("vertex(0, " + y + ")", frame.vertex(0, y), false);
            Check.polygon("vertex(0, " + y + ")", frame, 5, -6);
        }
    }

    private static void severalReasons() {
        PolygonFrame frame = Check.with(3, 5, -6);
        Check.due("both too large", frame.vertex(16385, 16385), false);
        Check.due("both too small", frame.vertex(-16385, -16385), false);
        Check.due("one of each", frame.vertex(16385, -16385), false);
        Check.polygon("refused", frame, 5, -6);
        Check.add(frame, 1, 1, 2, 2);
        Check.due("full, and too large", frame.vertex(16385, 0), false);
        Check.due("full, and too small", frame.vertex(0, -16385), false);
        Check.polygon("refused when full", frame, 5, -6, 1, 1, 2, 2);
    }

    private static void farthest() {
        int[] corners = {16384, 16384, -16384, 16384, 16384, -16384, -16384, -16384};
        Check.polygon("corners", Check.with(4, corners), corners);
        int[] nearly = {16383, 16383, -16383, 16383, 16383, -16383, -16383, -16383};
        Check.polygon("nearly corners", Check.with(4, nearly), nearly);
    }

    private static void beyondTheWindow() {
        PolygonFrame frame = Check.with(4);
        Check.window(frame, 0, 0, 1, 1);
        Check.add(frame, 9, 9, -9, -9);
        Check.polygon("beyond", frame, 9, 9, -9, -9);
    }

    private static void keepsThePixels() {
        PolygonFrame frame = new PolygonFrame(2, 2, 4);
        frame.clear(3);
        Check.add(frame, 0, 0, 2, 0, 2, 2);
        Check.picture("vertex", frame, "33", "33");
        Check.due("no coordinate", frame.vertex(0, 16385), false);
        Check.add(frame, 0, 2);
        Check.due("one more than four", frame.vertex(1, 1), false);
        Check.picture("refused", frame, "33", "33");
    }

    private static void keepsTheWindow() {
        PolygonFrame frame = Check.with(4);
        Check.window(frame, -1, 2, 3, 5);
        Check.add(frame, 9, 9, -9, 9, 0, 0);
        Check.due("no coordinate", frame.vertex(16385, 0), false);
        Check.add(frame, 1, 1);
        Check.due("one more than four", frame.vertex(1, 1), false);
        Check.windowIs(frame, -1, 2, 3, 5);
    }
}
