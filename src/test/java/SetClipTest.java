/** Promise 5: setClip. */
public final class SetClipTest {
    private static final int[] TOO_LOW = {-16385, -16386, -32768, -32769, Integer.MIN_VALUE};
    private static final int[] TOO_HIGH = {16385, 16386, 32767, 32768, Integer.MAX_VALUE};

    public static void main(String[] args) {
        Check.sentence("THE WINDOW is the one told last", SetClipTest::toldLast);
        Check.sentence("false if x0 is above x1", SetClipTest::x0AboveX1);
        Check.sentence("false if y0 is above y1", SetClipTest::y0AboveY1);
        Check.sentence("x0 may be x1, and y0 may be y1", SetClipTest::sameSides);
        Check.sentence("x0 may be above y1, and y0 above x1", SetClipTest::otherAxis);
        Check.sentence("false if x0 is no COORDINATE", SetClipTest::x0);
        Check.sentence("false if y0 is no COORDINATE", SetClipTest::y0);
        Check.sentence("false if x1 is no COORDINATE", SetClipTest::x1);
        Check.sentence("false if y1 is no COORDINATE", SetClipTest::y1);
        Check.sentence("false if none is a COORDINATE", SetClipTest::none);
        Check.sentence("the farthest COORDINATES are taken", SetClipTest::farthest);
        Check.sentence("false on a new object: THE WINDOW is still all COORDINATES", SetClipTest::refusedAtFirst);
        Check.sentence("setClip changes no VERTICES and no PIXELS", SetClipTest::changesNothingElse);
        Check.finish();
    }

    private static PolygonFrame frame() {
        PolygonFrame frame = Check.with(8);
        Check.window(frame, 2, 3, 5, 7);
        return frame;
    }

    private static void isRefused(int x0, int y0, int x1, int y1) {
        PolygonFrame frame = frame();
        String call = "setClip(" + x0 + ", " + y0 + ", " + x1 + ", " + y1 + ")";
        Check.due(call, frame.setClip(x0, y0, x1, y1), false);
        Check.windowIs(frame, 2, 3, 5, 7);
    }

    private static void toldLast() {
        PolygonFrame frame = frame();
        Check.windowIs(frame, 2, 3, 5, 7);
        Check.window(frame, -8, -6, 4, 1);
        Check.windowIs(frame, -8, -6, 4, 1);
        Check.window(frame, -20, -30, 40, 50);
        Check.windowIs(frame, -20, -30, 40, 50);
    }

    private static void x0AboveX1() {
        isRefused(6, 30, 5, 70);
        isRefused(-5, 30, -6, 70);
        isRefused(1, 30, 0, 70);
        isRefused(16384, 30, -16384, 70);
        isRefused(16384, 30, 16383, 70);
        isRefused(-16383, 30, -16384, 70);
    }

    private static void y0AboveY1() {
        isRefused(30, 6, 70, 5);
        isRefused(30, -5, 70, -6);
        isRefused(30, 1, 70, 0);
        isRefused(30, 16384, 70, -16384);
        isRefused(30, 16384, 70, 16383);
        isRefused(30, -16383, 70, -16384);
    }

    private static void sameSides() {
        PolygonFrame frame = frame();
        Check.window(frame, 4, 1, 4, 6);
        Check.windowIs(frame, 4, 1, 4, 6);
        Check.window(frame, 1, 4, 6, 4);
        Check.windowIs(frame, 1, 4, 6, 4);
        Check.window(frame, -4, -5, -4, -5);
        Check.windowIs(frame, -4, -5, -4, -5);
        Check.window(frame, 4, 4, 5, 5);
        Check.windowIs(frame, 4, 4, 5, 5);
    }

    private static void otherAxis() {
        PolygonFrame frame = frame();
        Check.window(frame, 10, -20, 20, -10);
        Check.windowIs(frame, 10, -20, 20, -10);
        Check.window(frame, -20, 10, -10, 20);
        Check.windowIs(frame, -20, 10, -10, 20);
    }

    private static void x0() {
        for (int wrong : TOO_LOW) {
            isRefused(wrong, 30, 60, 70);
        }
        for (int wrong : TOO_HIGH) {
            isRefused(wrong, 30, 60, 70);
        }
    }

    private static void y0() {
        for (int wrong : TOO_LOW) {
            isRefused(30, wrong, 60, 70);
        }
        for (int wrong : TOO_HIGH) {
            isRefused(30, wrong, 60, 70);
        }
    }

    private static void x1() {
        for (int wrong : TOO_LOW) {
            isRefused(30, 40, wrong, 70);
        }
        for (int wrong : TOO_HIGH) {
            isRefused(30, 40, wrong, 70);
        }
    }

    private static void y1() {
        for (int wrong : TOO_LOW) {
            isRefused(30, 40, 60, wrong);
        }
        for (int wrong : TOO_HIGH) {
            isRefused(30, 40, 60, wrong);
        }
    }

    private static void none() {
        for (int wrong : TOO_LOW) {
            isRefused(wrong, wrong, wrong, wrong);
        }
        for (int wrong : TOO_HIGH) {
            isRefused(wrong, wrong, wrong, wrong);
        }
        isRefused(-16385, -16385, 16385, 16385);
        isRefused(Integer.MIN_VALUE, Integer.MIN_VALUE, Integer.MAX_VALUE, Integer.MAX_VALUE);
    }

    private static void farthest() {
        PolygonFrame frame = frame();
        Check.window(frame, -16384, -16384, 16384, 16384);
        int[] square = {-16384, -16384, 16384, -16384, 16384, 16384, -16384, 16384};
        Check.add(frame, square);
        Check.clipped("widest", frame, square);
        Check.window(frame, -16384, -16384, -16384, -16384);
        Check.window(frame, 16384, 16384, 16384, 16384);
        frame.begin();
        Check.add(frame, 16384, 16384);
        Check.clipped("highest corner", frame, 16384, 16384);
    }

    private static void refusedAtFirst() {
        PolygonFrame frame = Check.with(8);
        Check.due("x0 above x1", frame.setClip(2, 1, 1, 2), false);
        Check.due("y0 above y1", frame.setClip(1, 2, 2, 1), false);
        Check.due("x1 too large", frame.setClip(1, 1, 16385, 2), false);
        Check.due("y1 too large", frame.setClip(1, 1, 2, 16385), false);
        int[] square = {-16384, -16384, 16384, -16384, 16384, 16384, -16384, 16384};
        Check.add(frame, square);
        Check.clipped("refused", frame, square);
    }

    private static void changesNothingElse() {
        PolygonFrame frame = new PolygonFrame(2, 2, 4);
        frame.clear(3);
        Check.add(frame, 0, 0, 9, 0, 9, 9);
        Check.window(frame, 1, 1, 2, 2);
        Check.polygon("setClip cuts nothing itself", frame, 0, 0, 9, 0, 9, 9);
        Check.picture("setClip", frame, "33", "33");
        Check.inside(frame, 8, 4, true);
        Check.due("fill beyond the window", frame.fill(1), 3);
    }
}
