/** Promise 3: begin. */
public final class BeginTest {
    public static void main(String[] args) {
        Check.sentence("no VERTICES", BeginTest::noVertices);
        Check.sentence("begin where there are as many as there may be", BeginTest::full);
        Check.sentence("begin on a new object", BeginTest::onANewObject);
        Check.sentence("begin twice", BeginTest::twice);
        Check.sentence("begin behind a clip that left none, one, and was refused", BeginTest::behindAClip);
        Check.sentence("begin changes no PIXELS", BeginTest::keepsThePixels);
        Check.sentence("begin changes no WINDOW", BeginTest::keepsTheWindow);
        Check.finish();
    }

    private static void noVertices() {
        PolygonFrame frame = Check.with(5, 0, 0, 3, 0, 0, 3);
        frame.begin();
        Check.polygon("begin", frame);
        Check.due("begin: vx(2)", frame.vx(2), -32768);
        Check.due("begin: vy(2)", frame.vy(2), -32768);
        Check.inside(frame, 0, 0, false);
        Check.due("begin: fill(9)", frame.fill(9), 0);
        Check.due("begin: clip()", frame.clip(), 0);
        PolygonFrame one = Check.with(5, 4, 4);
        one.begin();
        Check.polygon("begin behind one", one);
    }

    private static void full() {
        PolygonFrame frame = Check.with(3, 0, 0, 3, 0, 0, 3);
        Check.due("full", frame.vertex(9, 9), false);
        frame.begin();
        Check.polygon("begin", frame);
        Check.add(frame, 0, 1, 2, 2, 3, 3);
        Check.polygon("there is room for as many again", frame, 0, 1, 2, 2, 3, 3);
        Check.due("full again", frame.vertex(9, 9), false);
    }

    private static void onANewObject() {
        PolygonFrame frame = Check.with(3);
        frame.begin();
        Check.polygon("begin", frame);
        Check.add(frame, 1, 2);
        Check.polygon("begin and one", frame, 1, 2);
    }

    private static void twice() {
        PolygonFrame frame = Check.with(3, 1, 2);
        frame.begin();
        frame.begin();
        Check.polygon("begin twice", frame);
        Check.add(frame, 3, 4, 5, 6, 7, 8);
        Check.polygon("begin twice and three", frame, 3, 4, 5, 6, 7, 8);
    }

    private static void behindAClip() {
        PolygonFrame frame = Check.with(3, 0, 0, 9, 9);
        Check.window(frame, 2, 4, 2, 4);
        Check.due("refused: clip()", frame.clip(), -1);
        frame.begin();
        Check.polygon("behind a refused one", frame);
        Check.add(frame, 2, 4);
        Check.due("one: clip()", frame.clip(), 1);
        frame.begin();
        Check.polygon("behind one that left one", frame);
        Check.add(frame, 3, 4);
        Check.due("none: clip()", frame.clip(), 0);
        frame.begin();
        Check.polygon("behind one that left none", frame);
        Check.add(frame, 1, 2, 3, 4, 5, 6);
        Check.polygon("three", frame, 1, 2, 3, 4, 5, 6);
    }

    private static void keepsThePixels() {
        PolygonFrame frame = new PolygonFrame(3, 3, 3);
        Check.add(frame, 0, 0, 3, 0, 0, 3);
        frame.fill(4);
        frame.begin();
        Check.picture("begin", frame, "444", "440", "400");
    }

    private static void keepsTheWindow() {
        PolygonFrame frame = Check.with(4);
        Check.window(frame, -1, 2, 3, 5);
        frame.begin();
        Check.windowIs(frame, -1, 2, 3, 5);
    }
}
