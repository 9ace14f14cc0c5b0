/** Promise 11: pixel. */
public final class PixelTest {
    public static void main(String[] args) {
        PolygonFrame frame = new PolygonFrame(4, 3, 4);
        Check.picture("new", frame, "0000", "0000", "0000");
        Check.add(frame, 1, 0, 3, 0, 3, 1, 1, 1);
        frame.fill(2);
        frame.begin();
        Check.add(frame, 0, 2, 1, 2, 1, 3, 0, 3);
        frame.fill(9);
        Check.picture("two fills", frame, "0220", "0000", "9000");
        frame.clear(7);
        int[] noX = {-1, 4, 5, 24, Integer.MAX_VALUE, Integer.MIN_VALUE};
        for (int x : noX) {
            Check.due("pixel(" + x + ", 1)", frame.pixel(x, 1), -1);
        }
        int[] noY = {-1, 3, 4, 24, Integer.MAX_VALUE, Integer.MIN_VALUE};
        for (int y : noY) {
            Check.due("pixel(1, " + y + ")", frame.pixel(1, y), -1);
        }
        // These would be elements of one long row, but no pixels.
        Check.due("pixel(4, 0)", frame.pixel(4, 0), -1);
        Check.due("pixel(-1, 1)", frame.pixel(-1, 1), -1);
        Check.due("pixel(5, -1)", frame.pixel(5, -1), -1);
        Check.finish();
    }
}
