/** Promise 6: clip. */
public final class ClipTest {
    public static void main(String[] args) {
        orderOfVertices();
        eachSide();
        cutsRoundDownwards();
        cutsOfTheFarthestPoints();
        orderOfPasses();
        fewVertices();
        onTheSideIsGood();
        tooMany();
        tooManyForAWhile();
        tooManyAfterAClip();
        again();
        keepsThePixels();
        Check.finish();
    }

    private static PolygonFrame frame(int most, int x0, int y0, int x1, int y1) {
        PolygonFrame frame = new PolygonFrame(4, 4, most);
        Check.due("setClip", frame.setClip(x0, y0, x1, y1), true);
        return frame;
    }

    private static void clipped(String when, PolygonFrame frame, int... points) {
        Check.due(when + ": clip()", frame.clip(), points.length / 2);
        Check.polygon(when, frame, points);
    }

    private static void orderOfVertices() {
        PolygonFrame frame = frame(20, 2, 3, 5, 6);
        Check.add(frame, 1, 1, 8, 2, 6, 9, 2, 7);
        clipped("all four sides", frame, 2, 6, 2, 3, 5, 3, 5, 6);
        PolygonFrame within = frame(20, 0, 0, 9, 9);
        Check.add(within, 1, 1, 8, 2, 6, 9, 2, 7);
        clipped("all within", within, 1, 1, 8, 2, 6, 9, 2, 7);
        PolygonFrame beyond = frame(20, 100, 100, 200, 200);
        Check.add(beyond, 1, 1, 8, 2, 6, 9, 2, 7);
        clipped("all beyond", beyond);
    }

    private static void eachSide() {
        PolygonFrame left = frame(8, 3, -99, 99, 99);
        Check.add(left, 0, 0, 6, 0, 6, 6, 0, 6);
        clipped("x at least 3", left, 3, 0, 6, 0, 6, 6, 3, 6);
        PolygonFrame right = frame(8, -99, -99, 3, 99);
        Check.add(right, 0, 0, 6, 0, 6, 6, 0, 6);
        clipped("x at most 3", right, 0, 0, 3, 0, 3, 6, 0, 6);
        PolygonFrame top = frame(8, -99, 3, 99, 99);
        Check.add(top, 0, 0, 6, 0, 6, 6, 0, 6);
        clipped("y at least 3", top, 0, 3, 6, 3, 6, 6, 0, 6);
        PolygonFrame bottom = frame(8, -99, -99, 99, 3);
        Check.add(bottom, 0, 0, 6, 0, 6, 6, 0, 6);
        clipped("y at most 3", bottom, 0, 3, 0, 0, 6, 0, 6, 3);
    }

    private static void cutsRoundDownwards() {
        PolygonFrame up = frame(8, 1, -99, 99, 99);
        Check.add(up, 0, 0, 3, 2);
        clipped("2/3 there and back", up, 1, 0, 1, 0, 3, 2);
        PolygonFrame down = frame(8, 1, -99, 99, 99);
        Check.add(down, 0, 0, 3, -2);
        clipped("-2/3 there and back", down, 1, -1, 1, -1, 3, -2);
        PolygonFrame byY = frame(8, -99, -99, 99, 1);
        Check.add(byY, 0, 0, -5, 3, 5, 3);
        clipped("-5/3 and 5/3 with y = 1", byY, 1, 1, 0, 0, -2, 1);
        PolygonFrame whole = frame(8, -99, -2, 99, 99);
        Check.add(whole, 0, 0, -6, -6, 0, 3);
        clipped("a whole cut below 0 stays, and 24/9 from -6 on", whole, 0, 0, -2, -2, -4, -2, 0, 3);
    }

    private static void cutsOfTheFarthestPoints() {
        PolygonFrame frame = frame(8, 16383, -16384, 16384, 16384);
        Check.add(frame, -16384, -16384, 16384, 16384);
        clipped("far by x", frame, 16383, 16383, 16383, 16383, 16384, 16384);
        PolygonFrame byY = frame(8, -16384, -16383, 16384, 16384);
        Check.add(byY, 16384, -16384, -16384, 16384);
        clipped("far by y", byY, 16383, -16383, 16383, -16383, -16384, 16384);
        PolygonFrame steep = frame(8, -16384, -16384, -16383, 16384);
        Check.add(steep, -16384, 16384, 16384, -16383);
        clipped("far by x, rounded", steep, -16383, 16383, -16384, 16384, -16383, 16383);
    }

    /** A cut is rounded before the next side cuts its edges: another order has other points. */
    private static void orderOfPasses() {
        PolygonFrame frame = frame(8, 1, 1, 99, 99);
        Check.add(frame, 0, 0, 10, 7);
        clipped("x before y", frame, 2, 1, 2, 1, 10, 7);
        PolygonFrame byX = frame(8, 3, -99, 5, 99);
        Check.add(byX, 0, 0, 10, 7);
        clipped("x0 before x1", byX, 5, 3, 3, 2, 3, 2, 5, 3);
        PolygonFrame byY = frame(8, -99, 3, 99, 5);
        Check.add(byY, 0, 0, 7, 10);
        clipped("y0 before y1", byY, 3, 5, 2, 3, 2, 3, 3, 5);
    }

    private static void fewVertices() {
        PolygonFrame none = frame(3, 1, 1, 2, 2);
        clipped("none", none);
        PolygonFrame one = frame(3, 1, 1, 2, 2);
        Check.add(one, 2, 1);
        clipped("one within", one, 2, 1);
        PolygonFrame beyond = frame(3, 1, 1, 2, 2);
        Check.add(beyond, 3, 1);
        clipped("one beyond", beyond);
        PolygonFrame two = frame(4, 0, 2, 9, 4);
        Check.add(two, 1, 1, 6, 6);
        clipped("two", two, 4, 4, 2, 2, 2, 2, 4, 4);
    }

    private static void onTheSideIsGood() {
        PolygonFrame frame = frame(4, 1, 1, 5, 5);
        Check.add(frame, 1, 1, 5, 1, 5, 5, 1, 5);
        clipped("on the sides", frame, 1, 1, 5, 1, 5, 5, 1, 5);
        PolygonFrame touching = frame(8, 1, -9, 9, 9);
        Check.add(touching, 1, 0, 0, 1, 1, 2);
        clipped("a cut where a vertex is stands twice", touching, 1, 0, 1, 0, 1, 2, 1, 2);
    }

    private static void tooMany() {
        PolygonFrame frame = frame(3, 5, -5, 7, 30);
        Check.add(frame, 0, 0, 10, 0, 10, 10);
        Check.due("too many: clip()", frame.clip(), -1);
        Check.polygon("too many", frame, 0, 0, 10, 0, 10, 10);
        Check.due("too many again: clip()", frame.clip(), -1);
        Check.due("the window is kept: setClip", frame.setClip(0, 0, 10, 10), true);
        clipped("a wider window", frame, 0, 0, 10, 0, 10, 10);
        justEnough(13, -1);
        justEnough(14, 14);
    }

    private static void justEnough(int most, int due) {
        PolygonFrame frame = frame(most, 2, 1, 7, 13);
        Check.add(frame, 0, 0, 9, 3, 0, 6, 9, 9, 0, 12, 9, 15);
        Check.due("vertCap " + most + ": clip()", frame.clip(), due);
        Check.due("vertCap " + most + ": vertices()", frame.vertices(), due < 0 ? 6 : due);
        Check.due("vertCap " + most + ": vx(1)", frame.vx(1), due < 0 ? 9 : 7);
    }

    /** The first pass makes four of three, and a later one would leave none: it is the one behind that counts. */
    private static void tooManyForAWhile() {
        PolygonFrame frame = frame(3, 5, 100, 20, 200);
        Check.add(frame, 0, 0, 10, 0, 10, 10);
        Check.due("too many behind the first pass: clip()", frame.clip(), -1);
        Check.polygon("too many behind the first pass", frame, 0, 0, 10, 0, 10, 10);
        PolygonFrame last = frame(3, -99, -99, 99, 5);
        Check.add(last, 0, 0, 10, 0, 10, 10);
        Check.due("too many behind the last pass: clip()", last.clip(), -1);
        Check.polygon("too many behind the last pass", last, 0, 0, 10, 0, 10, 10);
    }

    /** A clip that went well leaves nothing that a refused one could spoil. */
    private static void tooManyAfterAClip() {
        PolygonFrame frame = frame(5, -20, -20, 20, 20);
        Check.add(frame, 0, 5, 5, 0, 10, 5, 5, 10);
        clipped("wide", frame, 0, 5, 5, 0, 10, 5, 5, 10);
        Check.due("setClip(1, 1, 20, 20)", frame.setClip(1, 1, 20, 20), true);
        Check.due("too many after a clip: clip()", frame.clip(), -1);
        Check.polygon("too many after a clip", frame, 0, 5, 5, 0, 10, 5, 5, 10);
        Check.due("setClip(1, 0, 20, 20)", frame.setClip(1, 0, 20, 20), true);
        clipped("after the refused one", frame, 1, 6, 1, 4, 5, 0, 10, 5, 5, 10);
    }

    private static void again() {
        PolygonFrame frame = frame(20, 2, 1, 7, 13);
        Check.add(frame, 1, 2, 9, 3, 4, 12);
        clipped("first", frame, 2, 5, 2, 2, 7, 2, 7, 6, 4, 12);
        clipped("second", frame, 2, 5, 2, 2, 7, 2, 7, 6, 4, 12);
        Check.due("setClip(3, 3, 6, 6)", frame.setClip(3, 3, 6, 6), true);
        clipped("third", frame, 3, 6, 3, 3, 6, 3, 6, 6);
    }

    private static void keepsThePixels() {
        PolygonFrame frame = frame(8, 2, 2, 3, 3);
        Check.add(frame, 0, 0, 4, 0, 4, 4, 0, 4);
        frame.fill(6);
        frame.clip();
        Check.picture("clip keeps the pixels", frame, "6666", "6666", "6666", "6666");
    }
}
