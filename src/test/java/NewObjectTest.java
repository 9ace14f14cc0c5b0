/** Promise 1: a new object. */
public final class NewObjectTest {
    private static final int LOWEST = Integer.MIN_VALUE;
    private static final int HIGHEST = Integer.MAX_VALUE;

    public static void main(String[] args) {
        Check.sentence("the width is 1 .. 24", () -> widths(1, 2, 3, 12, 22, 23, 24));
        Check.sentence("for a width below 1: 1", () -> widthIs(1, 0, -1, -2, -24, LOWEST));
        Check.sentence("for a width above 24: 24", () -> widthIs(24, 25, 26, 48, 60, HIGHEST));
        Check.sentence("the height is 1 .. 24", () -> heights(1, 2, 3, 12, 22, 23, 24));
        Check.sentence("for a height below 1: 1", () -> heightIs(1, 0, -1, -2, -24, LOWEST));
        Check.sentence("for a height above 24: 24", () -> heightIs(24, 25, 26, 48, 60, HIGHEST));
        Check.sentence("how many VERTICES there may be is 3 .. 60", () -> mosts(3, 4, 5, 24, 25, 58, 59, 60));
        Check.sentence("for fewer VERTICES than 3: 3", () -> mostIs(3, 2, 1, 0, -1, -3, LOWEST));
        Check.sentence("for more VERTICES than 60: 60", () -> mostIs(60, 61, 62, 64, 120, HIGHEST));
        Check.sentence("all three at once", NewObjectTest::allThree);
        Check.sentence("no VERTICES at first", NewObjectTest::noVertices);
        Check.sentence("one object is not another", NewObjectTest::objectsAreApart);
        Check.finish();
    }

    private static void widths(int... told) {
        for (int w : told) {
            widthIs(w, w);
        }
    }

    private static void heights(int... told) {
        for (int h : told) {
            heightIs(h, h);
        }
    }

    private static void mosts(int... told) {
        for (int vertCap : told) {
            mostIs(vertCap, vertCap);
        }
    }

    private static void widthIs(int due, int... told) {
        for (int w : told) {
            size(w, 5, 7, due, 5, 7);
        }
    }

    private static void heightIs(int due, int... told) {
        for (int h : told) {
            size(5, h, 7, 5, due, 7);
        }
    }

    private static void mostIs(int due, int... told) {
        for (int vertCap : told) {
            size(5, 6, vertCap, 5, 6, due);
        }
    }

    private static void allThree() {
        size(1, 1, 3, 1, 1, 3);
        size(24, 24, 60, 24, 24, 60);
        size(9, 5, 17, 9, 5, 17);
        size(0, 25, 2, 1, 24, 3);
        size(25, 0, 61, 24, 1, 60);
        size(LOWEST, HIGHEST, LOWEST, 1, 24, 3);
        size(HIGHEST, LOWEST, HIGHEST, 24, 1, 60);
    }

    private static void size(int w, int h, int vertCap, int width, int height, int most) {
        String made = "new PolygonFrame(" + w + ", " + h + ", " + vertCap + "): ";
        PolygonFrame frame = new PolygonFrame(w, h, vertCap);
        Check.due(made + "first pixel", frame.pixel(0, 0), 0);
        Check.due(made + "last pixel", frame.pixel(width - 1, height - 1), 0);
        Check.due(made + "pixel right of the last", frame.pixel(width, height - 1), -1);
        Check.due(made + "pixel below the last", frame.pixel(width - 1, height), -1);
        for (int i = 0; i < most; i++) {
            Check.due(made + "vertex " + i, frame.vertex(i, -i), true);
        }
        Check.due(made + "a vertex too many", frame.vertex(0, 0), false);
        Check.due(made + "vertices()", frame.vertices(), most);
        frame.begin();
        // Three vertices, as there may be no more; the triangle holds the largest frame.
        Check.add(frame, 0, 0, 99, 0, 0, 99);
        Check.due(made + "fill(1)", frame.fill(1), width * height);
    }

    private static void noVertices() {
        PolygonFrame frame = new PolygonFrame(4, 3, 5);
        Check.polygon("new", frame);
        Check.due("new: inside(0, 0)", frame.inside(0, 0), false);
        Check.due("new: fill(1)", frame.fill(1), 0);
        Check.due("new: clip()", frame.clip(), 0);
    }

    private static void objectsAreApart() {
        PolygonFrame one = new PolygonFrame(2, 2, 3);
        PolygonFrame other = new PolygonFrame(2, 2, 3);
        Check.add(one, 0, 0, 2, 0, 0, 2);
        one.clear(6);
        one.setClip(1, 1, 1, 1);
        Check.picture("the other", other, "00", "00");
        Check.polygon("the other", other);
        Check.add(other, 5, 5, 6, 6);
        Check.due("the other: clip()", other.clip(), 2);
    }
}
