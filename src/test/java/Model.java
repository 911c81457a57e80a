import java.util.ArrayList;
import java.util.List;

/**
 * The document once more, written from its words with the Java library's own root and bits, to try the
 * program against. It takes only numbers as told: what is refused is tried in RefusalTest.
 */
final class Model {
    private static final int UX = 0, UY = 1, LX = 2, LY = 3, A = 4, B = 5, C = 6, SIDE = 7, G = 8, D = 9;
    private static final int SX = 10, SY = 11, F = 12;

    private final int[][] hangings = new int[4][];
    private int[] load = {0, 0, 0};
    private int[] toRight = {0, 0};
    private final List<Integer> shims = new ArrayList<>();
    private final List<int[]> readings = new ArrayList<>();

    Model() {
        for (int h = 0; h < 4; h++) {
            hangings[h] = new int[] {0, 300, 0, 0, 300, 400, 300, 1, -100, 100, 0, 500, 500};
        }
    }

    int hang(int[] v) {
        System.arraycopy(v, 1, hangings[v[0]], UX, 8);
        return 1;
    }

    int wheel(int[] v) {
        System.arraycopy(v, 1, hangings[v[0]], G, 2);
        return 1;
    }

    int spring(int[] v) {
        System.arraycopy(v, 1, hangings[v[0]], SX, 3);
        return 1;
    }

    int mirror(int[] v) {
        int[] to = hangings[v[0]].clone();
        for (int turned : new int[] {UX, LX, SX, SIDE}) {
            to[turned] = -to[turned];
        }
        hangings[v[1]] = to;
        return 1;
    }

    /** px, py, qx, qy, or null where it is locked. */
    private static double[] joints(int[] t, int y) {
        int h = t[B] * t[B] - (y - t[LY]) * (y - t[LY]);
        if (h < 0) {
            return null;
        }
        double px = t[LX] + Math.sqrt(h);
        double py = y;
        double dx = t[UX] - px;
        double dy = t[UY] - py;
        double e = dx * dx + dy * dy;
        if (e == 0) {
            return null;
        }
        double m = ((t[C] * t[C] - t[A] * t[A]) + e) / (2.0 * e);
        double k = (t[C] * t[C]) / e - m * m;
        if (k < 0) {
            return null;
        }
        double s = t[SIDE] * Math.sqrt(k);
        return new double[] {px, py, px + m * dx + s * dy, py + m * dy - s * dx};
    }

    private static Double lean(int[] t, int y) {
        double[] j = joints(t, y);
        if (j == null) {
            return null;
        }
        double vx = (j[2] - j[0]) / t[C];
        double vy = (j[3] - j[1]) / t[C];
        return vy == 0 ? null : Double.valueOf(vx / vy);
    }

    private static double[] road(int[] t, double[] j) {
        double vx = (j[2] - j[0]) / t[C];
        double vy = (j[3] - j[1]) / t[C];
        return new double[] {j[0] + t[G] * vx + t[D] * vy, j[1] + t[G] * vy - t[D] * vx};
    }

    private static double[] centre(int[] t, double[] j) {
        double px = j[0], py = j[1], qx = j[2], qy = j[3];
        double n = (qx - t[UX]) * (py - t[LY]) - (qy - t[UY]) * (px - t[LX]);
        if (n == 0) {
            return null;
        }
        double w = ((t[LX] - t[UX]) * (py - t[LY]) - (t[LY] - t[UY]) * (px - t[LX])) / n;
        return new double[] {t[UX] + w * (qx - t[UX]), t[UY] + w * (qy - t[UY])};
    }

    private static Double length(int[] t, int y) {
        double[] j = joints(t, y);
        if (j == null) {
            return null;
        }
        double tx = t[LX] + t[F] * (j[0] - t[LX]) / 1000.0;
        double ty = t[LY] + t[F] * (j[1] - t[LY]) / 1000.0;
        return Math.sqrt((tx - t[SX]) * (tx - t[SX]) + (ty - t[SY]) * (ty - t[SY]));
    }

    private static Double told(int[] t, int y, int what) {
        if (what == 11) {
            Double below = length(t, y - 1);
            Double above = length(t, y + 1);
            return below == null || above == null ? null : Double.valueOf((below - above) / 2.0);
        }
        double[] j = joints(t, y);
        if (j == null) {
            return null;
        }
        if (what < 4) {
            return j[what];
        }
        if (what == 4) {
            return lean(t, y);
        }
        double[] r = road(t, j);
        if (what < 7) {
            return r[what - 5];
        }
        if (what == 10) {
            return length(t, y);
        }
        double[] i = centre(t, j);
        if (i == null) {
            return null;
        }
        if (what < 9) {
            return i[what - 7];
        }
        return i[0] - r[0] == 0 ? null : Double.valueOf(r[1] + (0.0 - r[0]) * (i[1] - r[1]) / (i[0] - r[0]));
    }

    private static long bits(Double d) {
        return d == null ? -1 : Double.doubleToLongBits(d);
    }

    long pose(int h, int y, int what) {
        return bits(told(hangings[h], y, what));
    }

    int lock(int h, int y0, int y1) {
        for (int y = y0; y <= y1; y++) {
            if (joints(hangings[h], y) == null) {
                return y;
            }
        }
        return y0 > y1 ? -2000 : -1;
    }

    int weight(int[] v) {
        load = v.clone();
        return 1;
    }

    int push(int[] v) {
        toRight = v.clone();
        return 1;
    }

    int carries(int wheel) {
        int rear = load[0] * load[1] / 1000;
        int front = load[0] - rear;
        int pushFront = toRight[0] * toRight[1] / 1000;
        int frontRight = front * (500 + load[2]) / 1000 + pushFront;
        int rearRight = rear * (500 + load[2]) / 1000 + (toRight[0] - pushFront);
        return new int[] {front - frontRight, frontRight, rear - rearRight, rearRight}[wheel];
    }

    int shim(int v) {
        if (shims.size() == 10) {
            return -4;
        }
        shims.add(v);
        return shims.size() - 1;
    }

    int best(int v, int j) {
        int best = -1;
        long leastRank = Long.MAX_VALUE;
        for (int set = (1 << shims.size()) - 1; set >= 0; set--) {
            int sum = 0;
            for (int i = 0; i < shims.size(); i++) {
                sum += (set & 1 << i) != 0 ? shims.get(i) : 0;
            }
            long rank = Math.abs(sum - v) * 1000000L + Integer.bitCount(set) * 10000L + set;
            if (Integer.bitCount(set) <= j && rank < leastRank) {
                leastRank = rank;
                best = set;
            }
        }
        return best;
    }

    int reading(int y, int v) {
        if (readings.size() == 12) {
            return -4;
        }
        readings.add(new int[] {y, v});
        return readings.size() - 1;
    }

    int clear() {
        int gone = readings.size();
        readings.clear();
        return gone;
    }

    private Double howFar(int[] t) {
        double sum = 0.0;
        for (int[] r : readings) {
            Double lean = lean(t, r[0]);
            if (lean == null) {
                return null;
            }
            sum += (1000.0 * lean - r[1]) * (1000.0 * lean - r[1]);
        }
        return sum;
    }

    long off(int h) {
        return bits(howFar(hangings[h]));
    }

    long found(int h, int r, int what) {
        Double least = null;
        int[] at = {0, 0};
        for (int x = -r; x <= r; x++) {
            for (int y = -r; y <= r; y++) {
                int[] t = hangings[h].clone();
                t[UX] += x;
                t[UY] += y;
                boolean stays = Math.abs(t[UX]) <= 1000 && Math.abs(t[UY]) <= 1000;
                Double far = stays ? howFar(t) : null;
                if (far != null && (least == null || far < least)) {
                    least = far;
                    at = new int[] {x + 10, y + 10};
                }
            }
        }
        return least == null ? -1 : what == 2 ? bits(least) : at[what];
    }

    int isClear(int[] v) {
        int[] t = hangings[v[0]];
        for (int y = v[4]; y <= v[5]; y++) {
            double[] j = joints(t, y);
            if (j != null) {
                double px = j[0], py = j[1], qx = j[2], qy = j[3];
                double i = ((v[1] - px) * (qx - px) + (v[2] - py) * (qy - py)) / (t[C] * t[C]);
                i = Math.max(0.0, Math.min(1.0, i));
                double x = v[1] - (px + i * (qx - px));
                double z = v[2] - (py + i * (qy - py));
                if (!(x * x + z * z >= v[3] * v[3])) {
                    return 0;
                }
            }
        }
        return v[4] > v[5] ? -2 : 1;
    }

    int count(int what) {
        return what == 0 ? shims.size() : readings.size();
    }

    long digest() {
        List<Integer> all = new ArrayList<>();
        all.add(shims.size());
        all.add(readings.size());
        for (int[] t : hangings) {
            for (int v : t) {
                all.add(v);
            }
        }
        for (int w = 0; w < 4; w++) {
            all.add(carries(w));
        }
        all.addAll(shims);
        for (int[] r : readings) {
            all.add(r[0]);
            all.add(r[1]);
        }
        long h = 229;
        for (int v : all) {
            h = 31 * h + v;
        }
        return h;
    }
}
