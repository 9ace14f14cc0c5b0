/** Promise 2: clear. */
public final class ClearTest {
    public static void main(String[] args) {
        PolygonFrame frame = new PolygonFrame(3, 2, 4);
        frame.clear(7);
        Check.picture("clear(7)", frame, "777", "777");
        Check.add(frame, 0, 0, 2, 0, 2, 1, 0, 1);
        frame.fill(5);
        Check.picture("fill(5)", frame, "557", "777");
        frame.clear(0);
        Check.picture("clear(0)", frame, "000", "000");
        Check.polygon("clear keeps the vertices", frame, 0, 0, 2, 0, 2, 1, 0, 1);
        anyColour(-1);
        anyColour(Integer.MIN_VALUE);
        anyColour(Integer.MAX_VALUE);
        keepsTheWindow();
        wholeFrame();
        Check.finish();
    }

    private static void anyColour(int colour) {
        PolygonFrame frame = new PolygonFrame(2, 1, 3);
        frame.clear(colour);
        Check.due("clear(" + colour + "): pixel(0, 0)", frame.pixel(0, 0), colour);
        Check.due("clear(" + colour + "): pixel(1, 0)", frame.pixel(1, 0), colour);
    }

    private static void keepsTheWindow() {
        PolygonFrame frame = new PolygonFrame(2, 2, 3);
        frame.setClip(1, 1, 2, 2);
        frame.clear(3);
        Check.add(frame, 0, 0);
        Check.due("clear keeps the window: clip()", frame.clip(), 0);
    }

    private static void wholeFrame() {
        PolygonFrame frame = new PolygonFrame(24, 12, 3);
        frame.clear(2);
        for (int y = 0; y < 12; y++) {
            for (int x = 0; x < 24; x++) {
                Check.due("clear(2): pixel(" + x + ", " + y + ")", frame.pixel(x, y), 2);
            }
        }
    }
}
