import java.util.function.IntUnaryOperator;

/** Promises 7, 8 and 12: vx, vy, vertices. */
public final class ReadVerticesTest {
    private static final int NONE = -32768;

    public static void main(String[] args) {
        Check.sentence("vx: the x of a VERTEX", ReadVerticesTest::x);
        Check.sentence("vx: -32768 if there is none: below 0", () -> belowZero("vx", three()::vx));
        Check.sentence("vx: -32768 if there is none: too large", () -> tooLarge("vx", three()::vx));
        Check.sentence("vx: -32768 if there is none: no VERTICES", () -> noVertices("vx", Check.with(3)::vx));
        Check.sentence("vx: -32768 if there is none: as many as there may be", () -> full("vx", sixty()::vx, 1));
        Check.sentence("vx: -32768 if there is none any more", () -> gone("vx", begun()::vx, cut()::vx, -7));
        Check.sentence("vy: the y of a VERTEX", ReadVerticesTest::y);
        Check.sentence("vy: -32768 if there is none: below 0", () -> belowZero("vy", three()::vy));
        Check.sentence("vy: -32768 if there is none: too large", () -> tooLarge("vy", three()::vy));
        Check.sentence("vy: -32768 if there is none: no VERTICES", () -> noVertices("vy", Check.with(3)::vy));
        Check.sentence("vy: -32768 if there is none: as many as there may be", () -> full("vy", sixty()::vy, -1));
        Check.sentence("vy: -32768 if there is none any more", () -> gone("vy", begun()::vy, cut()::vy, 8));
        Check.sentence("vertices: none", ReadVerticesTest::countOfNone);
        Check.sentence("vertices: one more with each", ReadVerticesTest::countOfEach);
        Check.sentence("vertices: as many as there may be", ReadVerticesTest::countWhenFull);
        Check.sentence("vertices: behind refused calls", ReadVerticesTest::countBehindRefused);
        Check.sentence("vertices: behind a clip", ReadVerticesTest::countBehindAClip);
        Check.sentence("vx, vy and vertices change nothing", ReadVerticesTest::changesNothing);
        Check.finish();
    }

    private static PolygonFrame three() {
        return Check.with(5, 11, -12, -16384, 16384, 16384, -16384);
    }

    private static PolygonFrame sixty() {
        PolygonFrame frame = Check.with(60);
        for (int i = 0; i < 60; i++) {
            Check.add(frame, 100 + i, -100 - i);
        }
        return frame;
    }

    /** One vertex where there were three. */
    private static PolygonFrame begun() {
        PolygonFrame frame = three();
        frame.begin();
        Check.add(frame, -7, 8);
        return frame;
    }

    /** One vertex of three that a clip has left. */
    private static PolygonFrame cut() {
        PolygonFrame frame = Check.with(5, -7, 8, -7, 8, -7, 8);
        Check.due("three: clip()", frame.clip(), 3);
        frame.begin();
        Check.add(frame, -7, 8);
        Check.due("one: clip()", frame.clip(), 1);
        return frame;
    }

    private static void x() {
        PolygonFrame frame = three();
        Check.due("vx(0)", frame.vx(0), 11);
        Check.due("vx(1)", frame.vx(1), -16384);
        Check.due("vx(2)", frame.vx(2), 16384);
    }

    private static void y() {
        PolygonFrame frame = three();
        Check.due("vy(0)", frame.vy(0), -12);
        Check.due("vy(1)", frame.vy(1), 16384);
        Check.due("vy(2)", frame.vy(2), -16384);
    }

    private static void belowZero(String call, IntUnaryOperator of) {
        for (int i : new int[] {-1, -2, -3, -60, Integer.MIN_VALUE}) {
            Check.due(call + "(" + i + ")", of.applyAsInt(i), NONE);
        }
    }

    private static void tooLarge(String call, IntUnaryOperator of) {
        for (int i : new int[] {3, 4, 5, 6, 59, 60, 61, Integer.MAX_VALUE}) {
            Check.due(call + "(" + i + ")", of.applyAsInt(i), NONE);
        }
    }

    private static void noVertices(String call, IntUnaryOperator of) {
        for (int i : new int[] {Integer.MIN_VALUE, -1, 0, 1, 2, 3, 4, Integer.MAX_VALUE}) {
            Check.due(call + "(" + i + ")", of.applyAsInt(i), NONE);
        }
    }

    private static void full(String call, IntUnaryOperator of, int sign) {
        Check.due(call + "(0)", of.applyAsInt(0), 100 * sign);
        Check.due(call + "(58)", of.applyAsInt(58), 158 * sign);
        Check.due(call + "(59)", of.applyAsInt(59), 159 * sign);
        Check.due(call + "(60)", of.applyAsInt(60), NONE);
        Check.due(call + "(61)", of.applyAsInt(61), NONE);
        Check.due(call + "(-1)", of.applyAsInt(-1), NONE);
    }

    private static void gone(String call, IntUnaryOperator begun, IntUnaryOperator cut, int first) {
        Check.due(call + "(0) behind begin", begun.applyAsInt(0), first);
        Check.due(call + "(1) behind begin", begun.applyAsInt(1), NONE);
        Check.due(call + "(2) behind begin", begun.applyAsInt(2), NONE);
        Check.due(call + "(0) behind clip", cut.applyAsInt(0), first);
        Check.due(call + "(1) behind clip", cut.applyAsInt(1), NONE);
        Check.due(call + "(2) behind clip", cut.applyAsInt(2), NONE);
    }

    private static void countOfNone() {
        PolygonFrame frame = Check.with(3);
        Check.due("new: vertices()", frame.vertices(), 0);
        frame.begin();
        Check.due("begin: vertices()", frame.vertices(), 0);
        Check.due("none: clip()", frame.clip(), 0);
        Check.due("clip: vertices()", frame.vertices(), 0);
        Check.add(frame, 1, 1);
        frame.begin();
        Check.due("begin behind one: vertices()", frame.vertices(), 0);
    }

    private static void countOfEach() {
        PolygonFrame frame = Check.with(60);
        for (int i = 1; i <= 60; i++) {
            Check.add(frame, i, i);
            Check.due("vertices()", frame.vertices(), i);
        }
    }

    private static void countWhenFull() {
        for (int most : new int[] {3, 4, 59, 60}) {
            PolygonFrame frame = Check.with(most);
            for (int i = 0; i < most + 5; i++) {
                frame.vertex(i, i);
            }
            Check.due("of " + most + ": vertices()", frame.vertices(), most);
        }
    }

    private static void countBehindRefused() {
        PolygonFrame frame = Check.with(3, 0, 5, 10, 0);
        frame.vertex(16385, 0);
        Check.due("no coordinate: vertices()", frame.vertices(), 2);
        Check.add(frame, 10, 10);
        frame.setClip(1, 0, 0, 1);
        Check.due("no window: vertices()", frame.vertices(), 3);
        Check.window(frame, 1, 0, 10, 10);
        Check.due("too many: clip()", frame.clip(), -1);
        Check.due("too many: vertices()", frame.vertices(), 3);
    }

    private static void countBehindAClip() {
        PolygonFrame frame = Check.with(4, 0, 5, 10, 0, 10, 10);
        Check.window(frame, 1, 0, 10, 10);
        Check.due("clip()", frame.clip(), 4);
        Check.due("vertices()", frame.vertices(), 4);
        Check.window(frame, 11, 0, 12, 10);
        Check.due("clip()", frame.clip(), 0);
        Check.due("vertices()", frame.vertices(), 0);
    }

    private static void changesNothing() {
        PolygonFrame frame = new PolygonFrame(2, 2, 4);
        frame.clear(3);
        Check.add(frame, 1, 2, 3, 4, 5, 6);
        Check.window(frame, -1, 2, 3, 5);
        Check.polygon("read once", frame, 1, 2, 3, 4, 5, 6);
        Check.polygon("read again", frame, 1, 2, 3, 4, 5, 6);
        Check.picture("read", frame, "33", "33");
        Check.windowIs(frame, -1, 2, 3, 5);
    }
}
