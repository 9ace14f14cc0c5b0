/** What the tests share: it prints every answer that is not the one due, and ends with exit code 1 if there was one. */
final class Check {
    private static int wrong = 0;

    private Check() {
    }

    static void due(String call, long got, long want) {
        if (got != want) {
            wrong++;
            System.out.println(call + " answered " + got + ", due is " + want);
        }
    }

    static void due(String call, boolean got, boolean want) {
        due(call, got ? 1 : 0, want ? 1 : 0);
    }

    /** Adds vertices, told as x, y, x, y .., each of which must be taken. */
    static void add(PolygonFrame frame, int... points) {
        for (int i = 0; i + 1 < points.length; i += 2) {
            due("vertex(" + points[i] + ", " + points[i + 1] + ")", frame.vertex(points[i], points[i + 1]), true);
        }
    }

    /** The polygon has just these vertices, told as x, y, x, y .. */
    static void polygon(String when, PolygonFrame frame, int... points) {
        int count = points.length / 2;
        due(when + ": vertices()", frame.vertices(), count);
        for (int i = 0; i < count; i++) {
            due(when + ": vx(" + i + ")", frame.vx(i), points[2 * i]);
            due(when + ": vy(" + i + ")", frame.vy(i), points[2 * i + 1]);
        }
        due(when + ": vx(" + count + ")", frame.vx(count), -32768);
        due(when + ": vy(" + count + ")", frame.vy(count), -32768);
    }

    /** The frame has just these pixels, a line of digits for each y; a colour is a digit. */
    static void picture(String when, PolygonFrame frame, String... lines) {
        for (int y = 0; y < lines.length; y++) {
            for (int x = 0; x < lines[y].length(); x++) {
                due(when + ": pixel(" + x + ", " + y + ")", frame.pixel(x, y), lines[y].charAt(x) - '0');
            }
            due(when + ": pixel right of line " + y, frame.pixel(lines[y].length(), y), -1);
        }
        due(when + ": pixel below", frame.pixel(0, lines.length), -1);
    }

    static void finish() {
        if (wrong != 0) {
            System.out.println(wrong + " answers are not as due");
            System.exit(1);
        }
        System.out.println("all answers are as due");
    }
}
