/** Promise 9: fill. */
public final class FillTest {
    public static void main(String[] args) {
        ordinary();
        crossedEdges();
        beyondTheFrame();
        fewVertices();
        anyColour();
        agreesWithInside();
        Check.finish();
    }

    private static void ordinary() {
        PolygonFrame frame = new PolygonFrame(10, 10, 4);
        Check.add(frame, 1, 1, 8, 2, 6, 9, 2, 7);
        Check.due("fill(3)", frame.fill(3), 37);
        Check.picture("fill(3)", frame,
                "0000000000",
                "0000000000",
                "0033333300",
                "0033333300",
                "0033333300",
                "0033333300",
                "0033333000",
                "0033333000",
                "0000333000",
                "0000000000");
        Check.due("fill(3) again counts the same", frame.fill(3), 37);
        frame.begin();
        Check.add(frame, 3, 3, 5, 3, 5, 5, 3, 5);
        Check.due("fill(8)", frame.fill(8), 4);
        Check.due("over the first: pixel(3, 3)", frame.pixel(3, 3), 8);
        Check.due("over the first: pixel(4, 4)", frame.pixel(4, 4), 8);
        Check.due("beside it: pixel(5, 4)", frame.pixel(5, 4), 3);
        Check.due("beside it: pixel(2, 3)", frame.pixel(2, 3), 3);
        Check.polygon("fill keeps the vertices", frame, 3, 3, 5, 3, 5, 5, 3, 5);
    }

    private static void crossedEdges() {
        PolygonFrame frame = new PolygonFrame(6, 5, 8);
        // A square twice round in part: where two squares lie, the crossings are even.
        Check.add(frame, 0, 0, 4, 0, 4, 4, 0, 4, 0, 0, 2, 0, 2, 2, 0, 2);
        Check.due("fill(1)", frame.fill(1), 12);
        Check.picture("fill(1)", frame, "001100", "001100", "111100", "111100", "000000");
    }

    private static void beyondTheFrame() {
        PolygonFrame all = new PolygonFrame(24, 24, 4);
        Check.add(all, -16384, -16384, 16384, -16384, 16384, 16384, -16384, 16384);
        Check.due("all of it", all.fill(5), 576);
        Check.due("first", all.pixel(0, 0), 5);
        Check.due("last", all.pixel(23, 23), 5);
        PolygonFrame none = new PolygonFrame(3, 3, 4);
        Check.add(none, -9, -9, -1, -9, -1, 9, -9, 9);
        Check.due("left of it", none.fill(5), 0);
        none.begin();
        Check.add(none, 3, -9, 9, -9, 9, 9, 3, 9);
        Check.due("right of it", none.fill(5), 0);
        none.begin();
        Check.add(none, -9, 3, 9, 3, 9, 9, -9, 9);
        Check.due("below it", none.fill(5), 0);
        none.begin();
        Check.add(none, -9, -9, 9, -9, 9, 0, -9, 0);
        Check.due("above it", none.fill(5), 0);
        Check.picture("none", none, "000", "000", "000");
        none.begin();
        Check.add(none, 2, 2, 9, 2, 9, 9, 2, 9);
        Check.due("the last pixel alone", none.fill(5), 1);
        Check.picture("the last pixel alone", none, "000", "000", "005");
    }

    private static void fewVertices() {
        PolygonFrame frame = new PolygonFrame(3, 3, 4);
        Check.due("none: fill(1)", frame.fill(1), 0);
        Check.add(frame, 1, 1);
        Check.due("one: fill(1)", frame.fill(1), 0);
        Check.add(frame, 3, 3);
        Check.due("two: fill(1)", frame.fill(1), 0);
        Check.picture("few", frame, "000", "000", "000");
    }

    private static void anyColour() {
        PolygonFrame frame = new PolygonFrame(2, 2, 4);
        Check.add(frame, 0, 0, 1, 0, 1, 1, 0, 1);
        Check.due("fill(-5)", frame.fill(-5), 1);
        Check.due("pixel(0, 0)", frame.pixel(0, 0), -5);
        Check.due("pixel(1, 0)", frame.pixel(1, 0), 0);
        Check.due("fill(lowest)", frame.fill(Integer.MIN_VALUE), 1);
        Check.due("pixel(0, 0)", frame.pixel(0, 0), Integer.MIN_VALUE);
        Check.due("fill(0)", frame.fill(0), 1);
        Check.due("pixel(0, 0)", frame.pixel(0, 0), 0);
    }

    private static void agreesWithInside() {
        PolygonFrame frame = new PolygonFrame(13, 11, 7);
        Check.add(frame, -3, -2, 9, 1, 2, 4, 15, 8, 4, 14, 6, 5, -1, 9);
        int filled = frame.fill(1);
        int inside = 0;
        for (int y = 0; y < 11; y++) {
            for (int x = 0; x < 13; x++) {
                boolean in = frame.inside(x, y);
                inside += in ? 1 : 0;
                Check.due("pixel(" + x + ", " + y + ")", frame.pixel(x, y), in ? 1 : 0);
            }
        }
        Check.due("how many", filled, inside);
    }
}
