/** Promise 6: clip. What one pass does is in PassTest. */
public final class ClipTest {
    private static final int FAR = 16384;
    /** A corner at the left, at the right, at the top and at the bottom, which the side 1 or 9 cuts off. */
    private static final int[] LEFT = {0, 5, 10, 0, 10, 10};
    private static final int[] RIGHT = {10, 5, 0, 10, 0, 0};
    private static final int[] TOP = {5, 0, 10, 10, 0, 10};
    private static final int[] BOTTOM = {5, 10, 0, 0, 10, 0};

    public static void main(String[] args) {
        Check.sentence("four PASSES, by all sides", ClipTest::allSides);
        Check.sentence("in the order above: x0 before x1", ClipTest::x0BeforeX1);
        Check.sentence("in the order above: y0 before y1", ClipTest::y0BeforeY1);
        Check.sentence("in the order above: x0 and x1 before y0 and y1", ClipTest::xBeforeY);
        Check.sentence("each PASS takes what the one before it made", ClipTest::roundedInBetween);
        Check.sentence("how many VERTICES there are then", ClipTest::howMany);
        Check.sentence("-1 if behind the first PASS there would be more", () -> tooMany(LEFT, 1, -FAR, FAR, FAR));
        Check.sentence("-1 if behind the second PASS there would be more", () -> tooMany(RIGHT, -FAR, -FAR, 9, FAR));
        Check.sentence("-1 if behind the third PASS there would be more", () -> tooMany(TOP, -FAR, 1, FAR, FAR));
        Check.sentence("-1 if behind the fourth PASS there would be more", () -> tooMany(BOTTOM, -FAR, -FAR, FAR, 9));
        Check.sentence("-1 if there would be more behind the first PASS alone", ClipTest::moreBehindTheFirst);
        Check.sentence("-1 if there would be more behind the second PASS alone", ClipTest::moreBehindTheSecond);
        Check.sentence("-1 if there would be more behind the third PASS alone", ClipTest::moreBehindTheThird);
        Check.sentence("just as many as there may be are no more than that", ClipTest::justAsMany);
        Check.sentence("-1 if of 60 there would be 61, or 90", ClipTest::sixty);
        Check.sentence("-1 and nothing changes: VERTICES that earlier PASSES have cut", ClipTest::cutBefore);
        Check.sentence("-1 and nothing changes: THE WINDOW", ClipTest::windowIsKept);
        Check.sentence("-1 and nothing changes: PIXELS", ClipTest::pixelsAreKept);
        Check.sentence("-1 and nothing changes: behind a clip, and again", ClipTest::refusedBehindAClip);
        Check.sentence("no VERTICES", ClipTest::none);
        Check.sentence("one VERTEX", ClipTest::one);
        Check.sentence("two VERTICES", ClipTest::two);
        Check.sentence("all within, and all beyond", ClipTest::withinAndBeyond);
        Check.sentence("a clip again", ClipTest::again);
        Check.sentence("clip changes no WINDOW", ClipTest::keepsTheWindow);
        Check.sentence("clip changes no PIXELS", ClipTest::keepsThePixels);
        Check.finish();
    }

    private static PolygonFrame frame(int most, int x0, int y0, int x1, int y1, int... points) {
        PolygonFrame frame = Check.with(most, points);
        Check.window(frame, x0, y0, x1, y1);
        return frame;
    }

    private static void allSides() {
        PolygonFrame frame = frame(20, 2, 3, 5, 6, 1, 1, 8, 2, 6, 9, 2, 7);
        Check.clipped("four sides", frame, 2, 6, 2, 3, 5, 3, 5, 6);
        int[] square = {0, 0, 6, 0, 6, 6, 0, 6};
        Check.clipped("x at least 3", frame(8, 3, -99, 99, 99, square), 3, 0, 6, 0, 6, 6, 3, 6);
        Check.clipped("x at most 3", frame(8, -99, -99, 3, 99, square), 0, 0, 3, 0, 3, 6, 0, 6);
        Check.clipped("y at least 3", frame(8, -99, 3, 99, 99, square), 0, 3, 6, 3, 6, 6, 0, 6);
        Check.clipped("y at most 3", frame(8, -99, -99, 99, 3, square), 0, 3, 0, 0, 6, 0, 6, 3);
    }

    /** By x1 first there would be one more than there may be; by x0 first most are gone by then. */
    private static void x0BeforeX1() {
        int[] points = {30, 5, 4, 10, 3, 9, 2, 8, 2, 2, 3, 1, 4, 0};
        PolygonFrame frame = frame(7, 20, -99, 25, 99, points);
        Check.clipped("x0 first", frame, 20, 3, 25, 4, 25, 5, 20, 6);
        PolygonFrame rounded = frame(8, 3, -99, 5, 99, 0, 0, 10, 7);
        Check.clipped("x0 first, rounded", rounded, 5, 3, 3, 2, 3, 2, 5, 3);
    }

    private static void y0BeforeY1() {
        int[] points = {5, 30, 10, 4, 9, 3, 8, 2, 2, 2, 1, 3, 0, 4};
        PolygonFrame frame = frame(7, -99, 20, 99, 25, points);
        Check.clipped("y0 first", frame, 3, 20, 4, 25, 5, 25, 6, 20);
        PolygonFrame rounded = frame(8, -99, 3, 99, 5, 0, 0, 7, 10);
        Check.clipped("y0 first, rounded", rounded, 3, 5, 2, 3, 2, 3, 3, 5);
    }

    /** By the side of y first there would be four of three; by the side of x first there are none. */
    private static void xBeforeY() {
        Check.clipped("x0 before y0", frame(3, 20, 1, 30, 99, TOP));
        Check.clipped("x0 before y1", frame(3, 20, -99, 30, 9, BOTTOM));
        Check.clipped("x1 before y0", frame(3, -30, 1, -20, 99, TOP));
        Check.clipped("x1 before y1", frame(3, -30, -99, -20, 9, BOTTOM));
    }

    private static void roundedInBetween() {
        PolygonFrame frame = frame(8, 1, 1, 99, 99, 0, 0, 10, 7);
        Check.clipped("x0, then y0", frame, 2, 1, 2, 1, 10, 7);
    }

    private static void howMany() {
        Check.due("0: clip()", frame(8, 50, 50, 60, 60, TOP).clip(), 0);
        Check.due("3: clip()", frame(8, 0, 0, 10, 10, TOP).clip(), 3);
        Check.due("4: clip()", frame(8, 0, 1, 10, 10, TOP).clip(), 4);
        Check.due("5: clip()", frame(8, 1, 0, 9, 10, TOP).clip(), 5);
        Check.due("6: clip()", frame(8, 1, 1, 9, 10, TOP).clip(), 6);
    }

    private static void tooMany(int[] corner, int x0, int y0, int x1, int y1) {
        PolygonFrame frame = frame(3, x0, y0, x1, y1, corner);
        Check.refused("four of three", frame, corner);
        Check.refused("four of three again", frame, corner);
        PolygonFrame enough = frame(4, x0, y0, x1, y1, corner);
        Check.due("four of four: clip()", enough.clip(), 4);
        Check.due("four of four: vertices()", enough.vertices(), 4);
    }

    private static void moreBehindTheFirst() {
        Check.refused("none behind the third", frame(3, 1, 50, 60, 60, LEFT), LEFT);
        Check.clipped("room for four", frame(4, 1, 50, 60, 60, LEFT));
    }

    private static void moreBehindTheSecond() {
        Check.refused("none behind the third", frame(3, -60, 50, 9, 60, RIGHT), RIGHT);
        Check.clipped("room for four", frame(4, -60, 50, 9, 60, RIGHT));
    }

    /** Eight of seven behind the third, but four behind the fourth. */
    private static void moreBehindTheThird() {
        int[] points = {5, 0, 10, 10, 8, 11, 6, 12, 4, 12, 2, 11, 0, 10};
        Check.refused("four behind the fourth", frame(7, -99, 2, 99, 6, points), points);
        Check.clipped("room for eight", frame(8, -99, 2, 99, 6, points), 2, 6, 4, 2, 6, 2, 8, 6);
    }

    private static void justAsMany() {
        int[] zigzag = {0, 0, 9, 3, 0, 6, 9, 9, 0, 12, 9, 15};
        PolygonFrame enough = frame(14, 2, 1, 7, 13, zigzag);
        Check.due("14 of 14: clip()", enough.clip(), 14);
        Check.due("14 of 14: vertices()", enough.vertices(), 14);
        Check.refused("14 of 13", frame(13, 2, 1, 7, 13, zigzag), zigzag);
        Check.clipped("3 of 3", frame(3, 0, 0, 10, 10, LEFT), LEFT);
        Check.refused("the nearest to 2 is 3: 4 of 3", frame(2, 1, 0, 10, 10, LEFT), LEFT);
    }

    /** Every other one is at x = 10, and the others are at x = 6 but for one at x = 4. */
    private static void sixty() {
        int[] points = new int[120];
        for (int i = 0; i < 60; i++) {
            points[2 * i] = i % 2 == 1 ? 10 : i == 30 ? 4 : 6;
            points[2 * i + 1] = i;
        }
        Check.clipped("60 of 60", frame(60, 4, 0, 10, 59, points), points);
        Check.refused("61 of 60", frame(60, 5, 0, 10, 59, points), points);
        Check.refused("90 of 60, first", frame(60, 7, 0, 10, 59, points), points);
        Check.refused("90 of 60, second", frame(60, 4, 0, 9, 59, points), points);
        Check.refused("the nearest to 61 is 60: 61 of 60", frame(61, 5, 0, 10, 59, points), points);
        int[] turned = new int[120];
        for (int i = 0; i < 120; i++) {
            turned[i] = points[i ^ 1];
        }
        Check.clipped("60 of 60 by y", frame(60, 0, 4, 59, 10, turned), turned);
        Check.refused("61 of 60 by y", frame(60, 0, 5, 59, 10, turned), turned);
        Check.refused("90 of 60, third", frame(60, 0, 7, 59, 10, turned), turned);
        Check.refused("90 of 60, fourth", frame(60, 0, 4, 59, 9, turned), turned);
    }

    /** The first pass leaves five of five, but not the same ones; a later one would make six of them. */
    private static void cutBefore() {
        int[] toTheRight = {0, 0, 20, 0, 30, 10, 20, 20, 0, 20};
        Check.refused("six behind the second", frame(5, 10, -99, 29, 99, toTheRight), toTheRight);
        PolygonFrame second = frame(6, 10, -99, 29, 99, toTheRight);
        Check.clipped("room for six", second, 10, 0, 20, 0, 29, 9, 29, 11, 20, 20, 10, 20);
        int[] toTheTop = {0, 10, 10, 0, 20, 10, 20, 20, 0, 20};
        Check.refused("six behind the third", frame(5, 5, 1, 99, 99, toTheTop), toTheTop);
        PolygonFrame third = frame(6, 5, 1, 99, 99, toTheTop);
        Check.clipped("room for six", third, 5, 5, 9, 1, 11, 1, 20, 10, 20, 20, 5, 20);
        int[] toTheBottom = {0, 0, 20, 0, 20, 10, 10, 20, 0, 10};
        Check.refused("six behind the fourth", frame(5, 5, -99, 99, 19, toTheBottom), toTheBottom);
        PolygonFrame fourth = frame(6, 5, -99, 99, 19, toTheBottom);
        Check.clipped("room for six", fourth, 5, 0, 20, 0, 20, 10, 11, 19, 9, 19, 5, 15);
    }

    private static void windowIsKept() {
        PolygonFrame frame = frame(4, 2, 3, 5, 7, 0, 5, 3, 0, 9, 5, 4, 9);
        Check.refused("too many", frame, 0, 5, 3, 0, 9, 5, 4, 9);
        Check.windowIs(frame, 2, 3, 5, 7);
    }

    private static void pixelsAreKept() {
        PolygonFrame frame = new PolygonFrame(3, 3, 3);
        Check.add(frame, 0, 0, 3, 0, 0, 3);
        frame.clear(2);
        frame.fill(5);
        Check.window(frame, 0, 0, 2, 9);
        Check.due("too many: clip()", frame.clip(), -1);
        Check.picture("too many", frame, "555", "552", "522");
        Check.due("too many: fill(6)", frame.fill(6), 6);
    }

    private static void refusedBehindAClip() {
        PolygonFrame frame = frame(5, -20, -20, 20, 20, 0, 5, 5, 0, 10, 5, 5, 10);
        Check.clipped("wide", frame, 0, 5, 5, 0, 10, 5, 5, 10);
        Check.window(frame, 1, 1, 20, 20);
        Check.refused("too many", frame, 0, 5, 5, 0, 10, 5, 5, 10);
        Check.refused("too many again", frame, 0, 5, 5, 0, 10, 5, 5, 10);
        Check.window(frame, 1, 0, 20, 20);
        Check.clipped("behind the refused ones", frame, 1, 6, 1, 4, 5, 0, 10, 5, 5, 10);
        Check.window(frame, 2, 0, 9, 20);
        Check.refused("and one more", frame, 1, 6, 1, 4, 5, 0, 10, 5, 5, 10);
        Check.inside(frame, 1, 5, true);
    }

    private static void none() {
        Check.clipped("none at first", Check.with(3));
        Check.clipped("none in a window", frame(3, 1, 1, 2, 2));
        PolygonFrame frame = frame(3, 1, 1, 2, 2, 9, 9);
        Check.clipped("one beyond", frame);
        Check.clipped("none are left", frame);
        frame.begin();
        Check.clipped("none behind begin", frame);
        Check.add(frame, 1, 1, 2, 1, 1, 2);
        Check.polygon("as many as there may be, behind none", frame, 1, 1, 2, 1, 1, 2);
    }

    private static void one() {
        Check.clipped("within", frame(3, 1, 1, 2, 2, 2, 1), 2, 1);
        Check.clipped("left", frame(3, 1, 1, 2, 2, 0, 1));
        Check.clipped("right", frame(3, 1, 1, 2, 2, 3, 1));
        Check.clipped("above", frame(3, 1, 1, 2, 2, 1, 0));
        Check.clipped("below", frame(3, 1, 1, 2, 2, 1, 3));
    }

    private static void two() {
        Check.clipped("both within", frame(3, 0, 0, 9, 9, 1, 1, 6, 6), 1, 1, 6, 6);
        Check.clipped("the second within", frame(3, 2, 0, 9, 9, 1, 1, 6, 6), 2, 2, 2, 2, 6, 6);
        Check.clipped("the first within", frame(3, 0, 0, 4, 9, 1, 1, 6, 6), 4, 4, 1, 1, 4, 4);
        Check.clipped("none within, but some between", frame(4, 0, 2, 9, 4, 1, 1, 6, 6), 4, 4, 2, 2, 2, 2, 4, 4);
        Check.refused("four of three", frame(3, 0, 2, 9, 4, 1, 1, 6, 6), 1, 1, 6, 6);
        Check.clipped("both beyond one side", frame(3, 7, 0, 9, 9, 1, 1, 6, 6));
        Check.clipped("the same point twice", frame(3, 0, 0, 9, 9, 5, 5, 5, 5), 5, 5, 5, 5);
    }

    private static void withinAndBeyond() {
        int[] points = {1, 1, 8, 2, 6, 9, 2, 7};
        Check.clipped("all within", frame(4, 0, 0, 9, 9, points), points);
        Check.clipped("all within, on the sides", frame(4, 1, 1, 8, 9, points), points);
        Check.clipped("all beyond x0", frame(4, 9, 0, 20, 9, points));
        Check.clipped("all beyond x1", frame(4, -9, 0, 0, 9, points));
        Check.clipped("all beyond y0", frame(4, 0, 10, 9, 20, points));
        Check.clipped("all beyond y1", frame(4, 0, -9, 9, 0, points));
    }

    private static void again() {
        PolygonFrame frame = frame(20, 2, 1, 7, 13, 1, 2, 9, 3, 4, 12);
        Check.clipped("first", frame, 2, 5, 2, 2, 7, 2, 7, 6, 4, 12);
        Check.clipped("second", frame, 2, 5, 2, 2, 7, 2, 7, 6, 4, 12);
        Check.window(frame, 3, 3, 6, 6);
        Check.clipped("third", frame, 3, 6, 3, 3, 6, 3, 6, 6);
    }

    private static void keepsTheWindow() {
        PolygonFrame frame = frame(8, 2, 3, 5, 7, LEFT);
        Check.due("clip()", frame.clip(), 5);
        Check.windowIs(frame, 2, 3, 5, 7);
        Check.windowIs(frame, 2, 3, 5, 7);
    }

    private static void keepsThePixels() {
        PolygonFrame frame = new PolygonFrame(4, 4, 8);
        Check.window(frame, 2, 2, 3, 3);
        Check.add(frame, 0, 0, 4, 0, 4, 4, 0, 4);
        frame.fill(6);
        frame.clip();
        Check.picture("clip", frame, "6666", "6666", "6666", "6666");
    }
}
