/** What the tests share: it prints every answer that is not the one due, and ends with exit code 1 if there was one. */
final class Check {
    private static int wrong = 0;
    private static String words = "";

    private Check() {
    }

    /** The test of one sentence of the document; what it throws is wrong too, and the sentences behind it are still tested. */
    static void sentence(String sentence, Runnable test) {
        words = "[" + sentence + "] ";
        try {
            test.run();
        } catch (RuntimeException thrown) {
            wrong++;
            System.out.println(words + "threw " + thrown);
        }
        words = "";
    }

    static void due(String call, long got, long want) {
        if (got != want) {
            wrong++;
            System.out.println(words + call + " answered " + got + ", due is " + want);
        }
    }

    static void due(String call, boolean got, boolean want) {
        due(call, got ? 1 : 0, want ? 1 : 0);
    }

    static void due(String call, String got, String want) {
        if (!got.equals(want)) {
            wrong++;
            System.out.println(words + call + " answered " + got + ", due is " + want);
        }
    }

    /** Adds vertices, told as x, y, x, y .., each of which must be taken. */
    static void add(PolygonFrame frame, int... points) {
        for (int i = 0; i + 1 < points.length; i += 2) {
            due("vertex(" + points[i] + ", " + points[i + 1] + ")", frame.vertex(points[i], points[i + 1]), true);
        }
    }

    /** A frame of one pixel, for a test of vertices alone. */
    static PolygonFrame with(int most, int... points) {
        PolygonFrame frame = new PolygonFrame(1, 1, most);
        add(frame, points);
        return frame;
    }

    static void window(PolygonFrame frame, int x0, int y0, int x1, int y1) {
        due("setClip(" + x0 + ", " + y0 + ", " + x1 + ", " + y1 + ")", frame.setClip(x0, y0, x1, y1), true);
    }

    /** Cuts a square all round, so that every side of the window shows; it takes room for four vertices. */
    static void windowIs(PolygonFrame frame, int x0, int y0, int x1, int y1) {
        frame.begin();
        add(frame, -99, -99, 99, -99, 99, 99, -99, 99);
        clipped("window " + x0 + ", " + y0 + " .. " + x1 + ", " + y1, frame, x0, y1, x0, y0, x1, y0, x1, y1);
    }

    /** The polygon has just these vertices, told as x, y, x, y .. */
    static void polygon(String when, PolygonFrame frame, int... points) {
        int count = points.length / 2;
        due(when + ": vertices()", frame.vertices(), count);
        for (int i = 0; i < count; i++) {
            due(when + ": vx(" + i + ")", frame.vx(i), points[2 * i]);
            due(when + ": vy(" + i + ")", frame.vy(i), points[2 * i + 1]);
        }
        due(when + ": vx(" + count + ")", frame.vx(count), -32768);
        due(when + ": vy(" + count + ")", frame.vy(count), -32768);
    }

    /** A clip leaves just these vertices. */
    static void clipped(String when, PolygonFrame frame, int... points) {
        due(when + ": clip()", frame.clip(), points.length / 2);
        polygon(when, frame, points);
    }

    /** A clip is refused, and the vertices are still these. */
    static void refused(String when, PolygonFrame frame, int... points) {
        due(when + ": clip()", frame.clip(), -1);
        polygon(when, frame, points);
    }

    static void inside(PolygonFrame frame, int x, int y, boolean want) {
        due("inside(" + x + ", " + y + ")", frame.inside(x, y), want);
    }

    /** The frame has just these pixels, a line of digits for each y; a colour is a digit. */
    static void picture(String when, PolygonFrame frame, String... lines) {
        for (int y = 0; y < lines.length; y++) {
            for (int x = 0; x < lines[y].length(); x++) {
                due(when + ": pixel(" + x + ", " + y + ")", frame.pixel(x, y), lines[y].charAt(x) - '0');
            }
            due(when + ": pixel right of line " + y, frame.pixel(lines[y].length(), y), -1);
        }
        due(when + ": pixel below", frame.pixel(0, lines.length), -1);
    }

    /** All pixels from line y0 to line y1 have a colour; a whole frame of 24 lines would be more calls than an object has. */
    static void lines(String when, PolygonFrame frame, int width, int y0, int y1, int colour) {
        for (int y = y0; y <= y1; y++) {
            for (int x = 0; x < width; x++) {
                due(when + ": pixel(" + x + ", " + y + ")", frame.pixel(x, y), colour);
            }
        }
    }

    static void finish() {
        if (wrong != 0) {
            System.out.println(wrong + " answers are not as due");
            System.exit(1);
        }
        System.out.println("all answers are as due");
    }
}
