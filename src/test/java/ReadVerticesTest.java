/** Promises 7, 8 and 12: vx, vy, vertices. */
public final class ReadVerticesTest {
    private static final int[] NONE = {-1, 2, 3, 59, 60, Integer.MAX_VALUE, Integer.MIN_VALUE};

    public static void main(String[] args) {
        PolygonFrame frame = new PolygonFrame(2, 2, 5);
        Check.due("vertices()", frame.vertices(), 0);
        Check.due("none: vx(0)", frame.vx(0), -32768);
        Check.due("none: vy(0)", frame.vy(0), -32768);
        Check.add(frame, 11, -12, -16384, 16384);
        Check.due("vertices()", frame.vertices(), 2);
        Check.due("vx(0)", frame.vx(0), 11);
        Check.due("vy(0)", frame.vy(0), -12);
        Check.due("vx(1)", frame.vx(1), -16384);
        Check.due("vy(1)", frame.vy(1), 16384);
        for (int i : NONE) {
            Check.due("vx(" + i + ")", frame.vx(i), -32768);
            Check.due("vy(" + i + ")", frame.vy(i), -32768);
        }
        Check.add(frame, 1, 2, 3, 4, 5, 6);
        Check.polygon("full", frame, 11, -12, -16384, 16384, 1, 2, 3, 4, 5, 6);
        frame.begin();
        Check.add(frame, 7, 8);
        Check.polygon("old vertices are gone", frame, 7, 8);
        Check.due("old vertices are gone: vx(4)", frame.vx(4), -32768);
        Check.due("old vertices are gone: vy(4)", frame.vy(4), -32768);
        Check.finish();
    }
}
