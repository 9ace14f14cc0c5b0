/** Promise 10: inside. */
public final class InsideTest {
    public static void main(String[] args) {
        square();
        exactly();
        farthestPoints();
        anyNumbers();
        crossings();
        fewVertices();
        lastEdge();
        Check.finish();
    }

    private static void at(PolygonFrame frame, int x, int y, boolean due) {
        Check.due("inside(" + x + ", " + y + ")", frame.inside(x, y), due);
    }

    /** Left and upper edges are in, right and lower ones are not. */
    private static void square() {
        PolygonFrame frame = new PolygonFrame(1, 1, 4);
        Check.add(frame, -2, -3, 4, -3, 4, 5, -2, 5);
        at(frame, 0, 0, true);
        at(frame, -2, -3, true);
        at(frame, -2, 4, true);
        at(frame, 3, -3, true);
        at(frame, 3, 4, true);
        at(frame, 4, 0, false);
        at(frame, 0, 5, false);
        at(frame, -3, 0, false);
        at(frame, 0, -4, false);
    }

    /** The edges lie between whole points: a crossing at 1/3 is above 0, one at -1/3 is not. */
    private static void exactly() {
        PolygonFrame frame = new PolygonFrame(1, 1, 4);
        Check.add(frame, 0, 0, 1, 3, -9, 3);
        at(frame, 0, 1, true);
        at(frame, 0, 2, true);
        at(frame, 1, 1, false);
        at(frame, 1, 2, false);
        frame.begin();
        Check.add(frame, 0, 0, -1, 3, -9, 3);
        at(frame, 0, 1, false);
        at(frame, -1, 1, true);
        at(frame, -1, 2, true);
        frame.begin();
        Check.add(frame, 0, 4, 4, 0, -4, 0);
        at(frame, 2, 2, false);
        at(frame, 1, 2, true);
        at(frame, -2, 2, true);
        at(frame, -3, 2, false);
    }

    private static void farthestPoints() {
        PolygonFrame frame = new PolygonFrame(1, 1, 4);
        Check.add(frame, -16384, -16384, 16384, 16384, -16384, 16383);
        at(frame, 16382, 16383, true);
        at(frame, 16383, 16383, false);
        at(frame, 0, 0, false);
        at(frame, -1, 0, true);
        at(frame, -16384, -16383, true);
        at(frame, -16383, -16383, false);
        frame.begin();
        Check.add(frame, 16384, -16384, -16384, 16384, 16384, 16384);
        at(frame, 0, 0, true);
        at(frame, -1, 0, false);
        at(frame, 16383, 16383, true);
        at(frame, 16384, 0, false);
    }

    private static void anyNumbers() {
        PolygonFrame frame = new PolygonFrame(1, 1, 4);
        Check.add(frame, -16384, -16384, 16384, -16384, 16384, 16384, -16384, 16384);
        int[] far = {16384, 16385, -16385, 50000, -50000, Integer.MAX_VALUE, Integer.MIN_VALUE};
        for (int value : far) {
            at(frame, value, 0, false);
            at(frame, 0, value, false);
            at(frame, value, value, false);
        }
        at(frame, -16384, -16384, true);
        at(frame, 16383, 16383, true);
    }

    /** A star: its middle is crossed twice on the way out. */
    private static void crossings() {
        PolygonFrame frame = new PolygonFrame(1, 1, 5);
        Check.add(frame, 50, 0, 80, 100, 0, 40, 100, 40, 20, 100);
        at(frame, 50, 60, false);
        at(frame, 50, 20, true);
        at(frame, 30, 85, true);
        at(frame, 70, 85, true);
        at(frame, 15, 45, true);
        at(frame, 85, 45, true);
        at(frame, 50, 95, false);
        at(frame, 20, 20, false);
    }

    private static void fewVertices() {
        PolygonFrame frame = new PolygonFrame(1, 1, 4);
        at(frame, 0, 0, false);
        Check.add(frame, 3, 3);
        at(frame, 3, 3, false);
        at(frame, 2, 3, false);
        Check.add(frame, 6, 6);
        at(frame, 3, 3, false);
        at(frame, 2, 4, false);
        at(frame, 4, 4, false);
    }

    /** Behind a vertex that is taken away no edge goes to it any more. */
    private static void lastEdge() {
        PolygonFrame frame = new PolygonFrame(1, 1, 4);
        Check.add(frame, 0, 0, 9, 0, 9, 9, 0, 9);
        frame.begin();
        Check.add(frame, 0, 0, 9, 0, 9, 9);
        at(frame, 5, 2, true);
        at(frame, 2, 5, false);
    }
}
