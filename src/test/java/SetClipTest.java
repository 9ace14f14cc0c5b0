/** Promise 5: setClip. */
public final class SetClipTest {
    private static final int[] NO_COORDINATES = {16385, -16385, Integer.MAX_VALUE, Integer.MIN_VALUE};

    public static void main(String[] args) {
        PolygonFrame frame = new PolygonFrame(3, 3, 8);
        Check.due("setClip(2, 3, 5, 7)", frame.setClip(2, 3, 5, 7), true);
        windowIs("2 3 5 7", frame);
        Check.due("x0 above x1", frame.setClip(6, 3, 5, 7), false);
        Check.due("y0 above y1", frame.setClip(2, 8, 5, 7), false);
        for (int wrong : NO_COORDINATES) {
            Check.due("x0 = " + wrong, frame.setClip(wrong, 0, 9, 9), false);
            Check.due("y0 = " + wrong, frame.setClip(0, wrong, 9, 9), false);
            Check.due("x1 = " + wrong, frame.setClip(0, 0, wrong, 9), false);
            Check.due("y1 = " + wrong, frame.setClip(0, 0, 9, wrong), false);
            Check.due("all = " + wrong, frame.setClip(wrong, wrong, wrong, wrong), false);
        }
        windowIs("refused ones change nothing", frame);
        onePoint();
        widest();
        changesNothingElse();
        Check.finish();
    }

    /** Cuts a square round the window 2, 3 .. 5, 7, so that every side shows. */
    private static void windowIs(String when, PolygonFrame frame) {
        frame.begin();
        Check.add(frame, 0, 0, 9, 0, 9, 9, 0, 9);
        Check.due(when + ": clip()", frame.clip(), 4);
        Check.polygon(when, frame, 2, 7, 2, 3, 5, 3, 5, 7);
    }

    private static void onePoint() {
        PolygonFrame frame = new PolygonFrame(3, 3, 8);
        Check.due("setClip(4, 4, 4, 4)", frame.setClip(4, 4, 4, 4), true);
        Check.add(frame, 4, 4, 5, 4, 4, 5);
        Check.due("one point: clip()", frame.clip(), 4);
        Check.polygon("one point", frame, 4, 4, 4, 4, 4, 4, 4, 4);
    }

    private static void widest() {
        PolygonFrame frame = new PolygonFrame(3, 3, 4);
        Check.due("narrow", frame.setClip(0, 0, 1, 1), true);
        Check.due("widest", frame.setClip(-16384, -16384, 16384, 16384), true);
        Check.add(frame, -16384, 16384, 16384, -16384);
        Check.due("widest: clip()", frame.clip(), 2);
        Check.polygon("widest", frame, -16384, 16384, 16384, -16384);
        Check.due("lowest corner", frame.setClip(-16384, -16384, -16384, -16384), true);
        Check.due("highest corner", frame.setClip(16384, 16384, 16384, 16384), true);
    }

    private static void changesNothingElse() {
        PolygonFrame frame = new PolygonFrame(2, 2, 4);
        frame.clear(3);
        Check.add(frame, 0, 0, 9, 0, 9, 9);
        Check.due("setClip(1, 1, 2, 2)", frame.setClip(1, 1, 2, 2), true);
        Check.polygon("setClip cuts nothing itself", frame, 0, 0, 9, 0, 9, 9);
        Check.picture("setClip", frame, "33", "33");
        Check.due("inside beyond the window", frame.inside(8, 4), true);
        Check.due("fill beyond the window", frame.fill(1), 3);
    }
}
