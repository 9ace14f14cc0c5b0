import java.math.BigInteger;
import java.util.ArrayList;
import java.util.Arrays;
import java.util.List;

/** The document's words once more, written without regard to room or speed, for the tests to compare with. */
final class PlainModel {
    private final int[][] pixels;
    private final int most;
    private List<int[]> vertices = new ArrayList<>();
    private int[] window = {-16384, -16384, 16384, 16384};

    PlainModel(int w, int h, int vertCap) {
        pixels = new int[nearest(h, 1, 24)][nearest(w, 1, 24)];
        most = nearest(vertCap, 3, 60);
    }

    private static int nearest(int value, int least, int greatest) {
        return value < least ? least : value > greatest ? greatest : value;
    }

    private static boolean coordinates(int... values) {
        for (int value : values) {
            if (value < -16384 || value > 16384) {
                return false;
            }
        }
        return true;
    }

    void clear(int colour) {
        for (int[] line : pixels) {
            Arrays.fill(line, colour);
        }
    }

    void begin() {
        vertices = new ArrayList<>();
    }

    boolean vertex(int x, int y) {
        if (vertices.size() == most || !coordinates(x, y)) {
            return false;
        }
        vertices.add(new int[] {x, y});
        return true;
    }

    boolean setClip(int x0, int y0, int x1, int y1) {
        if (x0 > x1 || y0 > y1 || !coordinates(x0, y0, x1, y1)) {
            return false;
        }
        window = new int[] {x0, y0, x1, y1};
        return true;
    }

    int clip() {
        List<int[]> one = pass(vertices, 0, window[0], 1);
        List<int[]> two = pass(one, 0, window[2], -1);
        List<int[]> three = pass(two, 1, window[1], 1);
        List<int[]> four = pass(three, 1, window[3], -1);
        if (one.size() > most || two.size() > most || three.size() > most || four.size() > most) {
            return -1;
        }
        vertices = four;
        return four.size();
    }

    /** The good side is where (value - s) * sign is at least 0. */
    private static List<int[]> pass(List<int[]> old, int axis, int s, int sign) {
        List<int[]> made = new ArrayList<>();
        for (int i = 0; i < old.size(); i++) {
            int[] it = old.get(i);
            int[] before = old.get(i == 0 ? old.size() - 1 : i - 1);
            boolean good = (it[axis] - s) * sign >= 0;
            boolean goodBefore = (before[axis] - s) * sign >= 0;
            if (good) {
                if (!goodBefore) {
                    made.add(cut(before, it, axis, s));
                }
                made.add(it);
            } else if (goodBefore) {
                made.add(cut(before, it, axis, s));
            }
        }
        return made;
    }

    private static int[] cut(int[] before, int[] it, int axis, int s) {
        int other = 1 - axis;
        BigInteger top = BigInteger.valueOf(it[other] - before[other]).multiply(BigInteger.valueOf(s - before[axis]));
        BigInteger bottom = BigInteger.valueOf(it[axis] - before[axis]);
        if (bottom.signum() < 0) {
            top = top.negate();
            bottom = bottom.negate();
        }
        BigInteger rest = top.mod(bottom);
        int[] point = new int[2];
        point[axis] = s;
        point[other] = before[other] + top.subtract(rest).divide(bottom).intValueExact();
        return point;
    }

    int vx(int i) {
        return i < 0 || i >= vertices.size() ? -32768 : vertices.get(i)[0];
    }

    int vy(int i) {
        return i < 0 || i >= vertices.size() ? -32768 : vertices.get(i)[1];
    }

    int fill(int colour) {
        int filled = 0;
        for (int y = 0; y < pixels.length; y++) {
            for (int x = 0; x < pixels[y].length; x++) {
                if (inside(x, y)) {
                    pixels[y][x] = colour;
                    filled++;
                }
            }
        }
        return filled;
    }

    boolean inside(int x, int y) {
        int crossings = 0;
        for (int i = 0; i < vertices.size(); i++) {
            int[] one = vertices.get(i);
            int[] other = vertices.get(i + 1 == vertices.size() ? 0 : i + 1);
            int[] low = one[1] <= other[1] ? one : other;
            int[] high = low == one ? other : one;
            if (low[1] <= y && high[1] > y && crossesAbove(low, high, x, y)) {
                crossings++;
            }
        }
        return crossings % 2 == 1;
    }

    /** Both sides of "the crossing is above x" are multiplied by the edge's height, which is above 0. */
    private static boolean crossesAbove(int[] low, int[] high, int x, int y) {
        BigInteger height = BigInteger.valueOf(high[1] - low[1]);
        BigInteger crossing = BigInteger.valueOf(low[0]).multiply(height)
                .add(BigInteger.valueOf(high[0] - low[0]).multiply(BigInteger.valueOf(y - low[1])));
        return crossing.compareTo(BigInteger.valueOf(x).multiply(height)) > 0;
    }

    int pixel(int x, int y) {
        return y < 0 || y >= pixels.length || x < 0 || x >= pixels[y].length ? -1 : pixels[y][x];
    }

    int vertices() {
        return vertices.size();
    }
}
