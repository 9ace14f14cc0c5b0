/** All promises at once: runs of 512 calls, the same ones every time, answer as the plain model does. */
public final class ModelTest {
    private static final int RUNS = 3000;
    private static final int CALLS = 512;
    /** Leaves room for the reading of all vertices and of some pixels. */
    private static final int MIXED_CALLS = 300;

    private final PolygonFrame frame;
    private final PlainModel model;
    private final String name;
    private final int reach;
    private long seed;
    private int calls;

    private ModelTest(int run) {
        name = "run " + run + ": ";
        seed = run * 7919L + 1;
        int[] reaches = {3, 12, 30, 200, 16384, 16400};
        reach = reaches[run % reaches.length];
        int w = below(30) - 2;
        int h = below(30) - 2;
        int vertCap = below(70) - 4;
        frame = new PolygonFrame(w, h, vertCap);
        model = new PlainModel(w, h, vertCap);
    }

    public static void main(String[] args) {
        for (int run = 0; run < RUNS; run++) {
            ModelTest test = new ModelTest(run);
            // Half of the runs go on with mixed calls to the last one that is promised.
            boolean reads = run % 4 < 2;
            while (test.calls < (reads ? MIXED_CALLS : CALLS)) {
                test.call();
            }
            if (reads) {
                test.readAtTheEnd();
            }
        }
        Check.finish();
    }

    /** A fixed row of numbers, so that a run that fails can be seen again. */
    private int below(int bound) {
        seed = seed * 6364136223846793005L + 1442695040888963407L;
        return (int) ((seed >>> 33) % bound);
    }

    private int place() {
        if (below(40) == 0) {
            int[] far = {16384, -16384, 16385, -16385, Integer.MAX_VALUE, Integer.MIN_VALUE};
            return far[below(far.length)];
        }
        return below(2) == 0 ? below(reach + 1) : below(2 * reach + 1) - reach;
    }

    private void call() {
        calls++;
        switch (below(20)) {
            case 0 -> clear();
            case 1 -> begin();
            case 2, 3 -> setClip();
            case 4, 5 -> Check.due(name + "clip()", frame.clip(), model.clip());
            case 6, 7 -> fill();
            case 8, 9 -> inside();
            case 10 -> Check.due(name + "vertices()", frame.vertices(), model.vertices());
            case 11 -> readX(below(64) - 2);
            case 12 -> readY(below(64) - 2);
            case 13 -> readPixel();
            default -> vertex();
        }
    }

    private void clear() {
        int colour = below(9) - 1;
        frame.clear(colour);
        model.clear(colour);
    }

    private void begin() {
        frame.begin();
        model.begin();
    }

    private void setClip() {
        int x0 = place();
        int y0 = place();
        int x1 = below(4) == 0 ? place() : x0 + below(reach + 1);
        int y1 = below(4) == 0 ? place() : y0 + below(reach + 1);
        Check.due(name + "setClip(" + x0 + ", " + y0 + ", " + x1 + ", " + y1 + ")",
                frame.setClip(x0, y0, x1, y1), model.setClip(x0, y0, x1, y1));
    }

    private void fill() {
        int colour = below(9) - 1;
        Check.due(name + "fill(" + colour + ")", frame.fill(colour), model.fill(colour));
    }

    private void inside() {
        int x = place();
        int y = place();
        Check.due(name + "inside(" + x + ", " + y + ")", frame.inside(x, y), model.inside(x, y));
    }

    private void readX(int i) {
        Check.due(name + "vx(" + i + ")", frame.vx(i), model.vx(i));
    }

    private void readY(int i) {
        Check.due(name + "vy(" + i + ")", frame.vy(i), model.vy(i));
    }

    private void readPixel() {
        int x = below(28) - 2;
        int y = below(28) - 2;
        Check.due(name + "pixel(" + x + ", " + y + ")", frame.pixel(x, y), model.pixel(x, y));
    }

    private void vertex() {
        int x = place();
        int y = place();
        Check.due(name + "vertex(" + x + ", " + y + ")", frame.vertex(x, y), model.vertex(x, y));
    }

    private void readAtTheEnd() {
        for (int i = 0; i <= model.vertices(); i++) {
            readX(i);
            readY(i);
            calls += 2;
        }
        while (calls < CALLS) {
            readPixel();
            calls++;
        }
    }
}
