/** Promise 1: a new object. */
public final class NewObjectTest {
    public static void main(String[] args) {
        size(1, 1, 3, 1, 1, 3);
        size(24, 24, 60, 24, 24, 60);
        size(5, 9, 17, 5, 9, 17);
        size(0, 25, 2, 1, 24, 3);
        size(25, 0, 61, 24, 1, 60);
        size(-7, 1000, -1, 1, 24, 3);
        size(Integer.MIN_VALUE, Integer.MAX_VALUE, Integer.MIN_VALUE, 1, 24, 3);
        size(Integer.MAX_VALUE, Integer.MIN_VALUE, Integer.MAX_VALUE, 24, 1, 60);
        firstState();
        objectsAreApart();
        Check.finish();
    }

    private static void size(int w, int h, int vertCap, int width, int height, int most) {
        String made = "new PolygonFrame(" + w + ", " + h + ", " + vertCap + "): ";
        PolygonFrame frame = new PolygonFrame(w, h, vertCap);
        Check.due(made + "last pixel", frame.pixel(width - 1, height - 1), 0);
        Check.due(made + "pixel right of the last", frame.pixel(width, height - 1), -1);
        Check.due(made + "pixel below the last", frame.pixel(width - 1, height), -1);
        for (int i = 0; i < most; i++) {
            Check.due(made + "vertex " + i, frame.vertex(i, -i), true);
        }
        Check.due(made + "a vertex too many", frame.vertex(0, 0), false);
        Check.due(made + "vertices()", frame.vertices(), most);
    }

    private static void firstState() {
        PolygonFrame frame = new PolygonFrame(4, 3, 5);
        Check.picture("new", frame, "0000", "0000", "0000");
        Check.polygon("new", frame);
        Check.due("new: inside(0, 0)", frame.inside(0, 0), false);
        Check.due("new: fill(1)", frame.fill(1), 0);
        Check.due("new: clip()", frame.clip(), 0);
        // The first window has all coordinates, so nothing is cut.
        Check.add(frame, -16384, -16384, 16384, -16384, 16384, 16384, -16384, 16384);
        Check.due("first window: clip()", frame.clip(), 4);
        Check.polygon("first window", frame, -16384, -16384, 16384, -16384, 16384, 16384, -16384, 16384);
    }

    private static void objectsAreApart() {
        PolygonFrame one = new PolygonFrame(2, 2, 3);
        PolygonFrame other = new PolygonFrame(2, 2, 3);
        Check.add(one, 0, 0, 2, 0, 0, 2);
        one.clear(6);
        one.setClip(1, 1, 1, 1);
        Check.picture("the other", other, "00", "00");
        Check.polygon("the other", other);
        Check.add(other, 5, 5, 6, 6);
        Check.due("the other: clip()", other.clip(), 2);
    }
}
