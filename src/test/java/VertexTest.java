/** Promise 4: vertex. */
public final class VertexTest {
    private static final int[] NO_COORDINATES = {16385, -16385, 32767, -32768, Integer.MAX_VALUE, Integer.MIN_VALUE};

    public static void main(String[] args) {
        PolygonFrame frame = new PolygonFrame(3, 3, 4);
        Check.add(frame, 5, -6);
        Check.polygon("one", frame, 5, -6);
        for (int wrong : NO_COORDINATES) {
            Check.due("vertex(" + wrong + ", 0)", frame.vertex(wrong, 0), false);
            Check.due("vertex(0, " + wrong + ")", frame.vertex(0, wrong), false);
            Check.due("vertex(" + wrong + ", " + wrong + ")", frame.vertex(wrong, wrong), false);
        }
        Check.polygon("refused ones change nothing", frame, 5, -6);
        Check.add(frame, 16384, -16384, -16384, 16384, 5, -6);
        Check.polygon("full", frame, 5, -6, 16384, -16384, -16384, 16384, 5, -6);
        Check.due("vertex(1, 1) when full", frame.vertex(1, 1), false);
        Check.due("vertex(16385, 1) when full", frame.vertex(16385, 1), false);
        Check.polygon("still full", frame, 5, -6, 16384, -16384, -16384, 16384, 5, -6);
        ignoresTheWindow();
        afterClip();
        Check.finish();
    }

    private static void ignoresTheWindow() {
        PolygonFrame frame = new PolygonFrame(3, 3, 4);
        frame.setClip(0, 0, 1, 1);
        Check.add(frame, 9, 9);
        Check.polygon("a vertex beyond the window", frame, 9, 9);
    }

    private static void afterClip() {
        PolygonFrame frame = new PolygonFrame(3, 3, 3);
        frame.setClip(0, 0, 5, 5);
        Check.add(frame, 1, 1, 2, 1);
        Check.due("clip()", frame.clip(), 2);
        Check.add(frame, 2, 2);
        Check.polygon("a vertex behind a clip", frame, 1, 1, 2, 1, 2, 2);
        Check.due("one too many behind a clip", frame.vertex(3, 3), false);
    }
}
