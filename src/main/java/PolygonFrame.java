import java.util.Arrays;

/** A polygon of whole points that is cut to a window, asked for points inside, and filled into a frame of pixels. */
public final class PolygonFrame {
    private static final int LOWEST_COORDINATE = -16384;
    private static final int HIGHEST_COORDINATE = 16384;
    private static final int LONGEST_SIDE = 24;
    private static final int FEWEST_VERTICES = 3;
    private static final int MOST_VERTICES = 60;
    private static final int NO_VERTEX = -32768;
    private static final int NO_PIXEL = -1;
    private static final int TOO_MANY = -1;

    private final int width;
    private final int height;
    private final int[] colours;
    /** At n: whether an odd number of edges cross the line being filled above just its first n pixels. */
    private final boolean[] turns;
    /** The window's sides in the order of the passes: x0, x1, y0, y1. */
    private final int[] sides;
    private Ring polygon;
    /** A clip works in these two rings only, so that one that is refused has changed nothing. */
    private final Ring oddPasses;
    private Ring evenPasses;

    public PolygonFrame(int w, int h, int vertCap) {
        width = nearest(w, 1, LONGEST_SIDE);
        height = nearest(h, 1, LONGEST_SIDE);
        colours = new int[width * height];
        turns = new boolean[width + 1];
        sides = new int[] {LOWEST_COORDINATE, HIGHEST_COORDINATE, LOWEST_COORDINATE, HIGHEST_COORDINATE};
        int most = nearest(vertCap, FEWEST_VERTICES, MOST_VERTICES);
        polygon = new Ring(most);
        oddPasses = new Ring(most);
        evenPasses = new Ring(most);
    }

    public void clear(int colour) {
        Arrays.fill(colours, colour);
    }

    public void begin() {
        polygon.count = 0;
    }

    public boolean vertex(int x, int y) {
        return isCoordinate(x) && isCoordinate(y) && polygon.append(x, y);
    }

    public boolean setClip(int x0, int y0, int x1, int y1) {
        if (!isRange(x0, x1) || !isRange(y0, y1)) {
            return false;
        }
        sides[0] = x0;
        sides[1] = x1;
        sides[2] = y0;
        sides[3] = y1;
        return true;
    }

    public int clip() {
        Ring from = polygon;
        for (int side = 0; side < sides.length; side++) {
            Ring to = side % 2 == 0 ? oddPasses : evenPasses;
            if (!pass(from, to, side)) {
                return TOO_MANY;
            }
            from = to;
        }
        evenPasses = polygon;
        polygon = from;
        return polygon.count;
    }

    public int vx(int i) {
        return polygon.has(i) ? polygon.xs[i] : NO_VERTEX;
    }

    public int vy(int i) {
        return polygon.has(i) ? polygon.ys[i] : NO_VERTEX;
    }

    public int fill(int colour) {
        int filled = 0;
        for (int y = 0; y < height; y++) {
            markTurns(y);
            filled += fillLine(y, colour);
        }
        return filled;
    }

    public boolean inside(int x, int y) {
        boolean odd = false;
        for (int i = 0; i < polygon.count; i++) {
            // For a whole x, a place is above x just if the place rounded upwards is.
            if (polygon.edgeMeets(i, y) && polygon.crossingUpwards(i, y) > x) {
                odd = !odd;
            }
        }
        return odd;
    }

    public int pixel(int x, int y) {
        if (x < 0 || x >= width || y < 0 || y >= height) {
            return NO_PIXEL;
        }
        return colours[y * width + x];
    }

    public int vertices() {
        return polygon.count;
    }

    private static int nearest(int value, int least, int most) {
        return Math.max(least, Math.min(most, value));
    }

    private static boolean isCoordinate(int value) {
        return value >= LOWEST_COORDINATE && value <= HIGHEST_COORDINATE;
    }

    private static boolean isRange(int from, int to) {
        return isCoordinate(from) && isCoordinate(to) && from <= to;
    }

    /** One pass; false if there would be more vertices than there may be. */
    private boolean pass(Ring from, Ring to, int side) {
        boolean byX = side < 2;
        int[] along = from.axis(byX);
        int[] across = from.axis(!byX);
        int s = sides[side];
        to.count = 0;
        int before = from.count - 1;
        for (int i = 0; i < from.count; i++) {
            boolean good = isGood(along[i], side);
            if (good != isGood(along[before], side)) {
                int cut = cutAcross(along[before], across[before], along[i], across[i], s);
                if (!to.append(byX ? s : cut, byX ? cut : s)) {
                    return false;
                }
            }
            if (good && !to.append(from.xs[i], from.ys[i])) {
                return false;
            }
            before = i;
        }
        return true;
    }

    private boolean isGood(int value, int side) {
        return side % 2 == 0 ? value >= sides[side] : value <= sides[side];
    }

    /** Called only for ends on different sides of s, so c - a is not 0; products of coordinate differences fit an int. */
    private static int cutAcross(int a, int b, int c, int d, int s) {
        return b + Math.floorDiv((d - b) * (s - a), c - a);
    }

    private void markTurns(int y) {
        for (int x = 0; x <= width; x++) {
            turns[x] = false;
        }
        for (int i = 0; i < polygon.count; i++) {
            if (polygon.edgeMeets(i, y)) {
                int x = nearest(polygon.crossingUpwards(i, y), 0, width);
                turns[x] = !turns[x];
            }
        }
    }

    /** Goes from the right to the left, as a pixel counts the crossings above its x. */
    private int fillLine(int y, int colour) {
        int filled = 0;
        boolean odd = false;
        for (int x = width - 1; x >= 0; x--) {
            odd = odd != turns[x + 1];
            if (odd) {
                colours[y * width + x] = colour;
                filled++;
            }
        }
        return filled;
    }

    /** The vertices of a polygon, in rows that are made once. */
    private static final class Ring {
        private final int[] xs;
        private final int[] ys;
        private int count;

        private Ring(int most) {
            xs = new int[most];
            ys = new int[most];
            count = 0;
        }

        private boolean has(int i) {
            return i >= 0 && i < count;
        }

        private boolean append(int x, int y) {
            if (count >= xs.length) {
                return false;
            }
            xs[count] = x;
            ys[count] = y;
            count++;
            return true;
        }

        private int[] axis(boolean byX) {
            return byX ? xs : ys;
        }

        private int nextOf(int i) {
            return i + 1 < count ? i + 1 : 0;
        }

        /** Whether one end of edge i is at most y and the other above it. */
        private boolean edgeMeets(int i, int y) {
            return (ys[i] <= y) != (ys[nextOf(i)] <= y);
        }

        /** Called only for an edge that meets y, so its ends differ in y and the products fit an int. */
        private int crossingUpwards(int i, int y) {
            int j = nextOf(i);
            return xs[i] - Math.floorDiv((xs[i] - xs[j]) * (y - ys[i]), ys[j] - ys[i]);
        }
    }
}
