/** Promise 3: begin. */
public final class BeginTest {
    public static void main(String[] args) {
        PolygonFrame frame = new PolygonFrame(3, 3, 3);
        frame.begin();
        Check.polygon("begin on a new object", frame);
        Check.add(frame, 0, 0, 3, 0, 0, 3);
        frame.fill(4);
        frame.setClip(1, 0, 3, 3);
        frame.begin();
        Check.polygon("begin", frame);
        Check.due("begin: inside(0, 0)", frame.inside(0, 0), false);
        Check.due("begin: fill(9)", frame.fill(9), 0);
        Check.picture("begin keeps the pixels", frame, "444", "440", "400");
        Check.add(frame, 0, 1, 2, 2, 3, 3);
        Check.polygon("after begin there is room again", frame, 0, 1, 2, 2, 3, 3);
        frame.begin();
        Check.add(frame, 0, 1);
        Check.due("begin keeps the window: clip()", frame.clip(), 0);
        Check.finish();
    }
}
