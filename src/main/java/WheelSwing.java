/** Hangings of two arms and an upright, followed through their travel: see README.md. */
public final class WheelSwing {
    public static final int NONE = -1, BAD = -2, FULL = -4;

    private static final int BAD_LOCK = -2000;
    private static final int BAD_WHEEL = -2000000;
    private static final int HANGINGS = 4;
    private static final int WHEELS = 4;
    private static final int FARTHEST = 1000;
    private static final int MOVED_BIAS = 10;
    private static final int LAST_OF_POSE = 11;

    private final Hanging[] hangings = new Hanging[HANGINGS];
    private final Stand stand = new Stand();
    private final Car car = new Car();
    private final ShimBox shims = new ShimBox();
    private final Readings readings = new Readings();

    public WheelSwing() {
        for (int i = 0; i < hangings.length; i++) {
            hangings[i] = new Hanging();
        }
    }

    public int hang(int h, int ux, int uy, int lx, int ly, int a, int b, int c, int side) {
        if (!isHanging(h) || !isPoint(ux, uy) || !isPoint(lx, ly)) {
            return BAD;
        }
        if (!isArm(a) || !isArm(b) || !isArm(c) || side != 1 && side != -1) {
            return BAD;
        }
        hangings[h].setUpperArm(ux, uy, a);
        hangings[h].setLowerArm(lx, ly, b);
        hangings[h].setUpright(c, side);
        return 1;
    }

    public int wheel(int h, int g, int d) {
        if (!isHanging(h) || !isPoint(g, d)) {
            return BAD;
        }
        hangings[h].setRoadPoint(g, d);
        return 1;
    }

    public int spring(int h, int sx, int sy, int f) {
        if (!isHanging(h) || !isPoint(sx, sy) || !isWithin(f, 0, 1000)) {
            return BAD;
        }
        hangings[h].setSpring(sx, sy, f);
        return 1;
    }

    public int mirror(int from, int to) {
        if (!isHanging(from) || !isHanging(to)) {
            return BAD;
        }
        hangings[to].becomeMirrorOf(hangings[from]);
        return 1;
    }

    public long pose(int h, int y, int what) {
        if (!isHanging(h) || !isCoordinate(y) || !isWithin(what, 0, LAST_OF_POSE)) {
            return BAD;
        }
        Hanging of = hangings[h];
        if (what == LAST_OF_POSE) {
            return springShare(of, y);
        }
        if (!stand.reach(of, of.ux, of.uy, y)) {
            return NONE;
        }
        stand.placeUpright(of);
        return what < 7 ? tellWheel(of, what) : tellTravel(of, what);
    }

    public int lock(int h, int y0, int y1) {
        if (!isHanging(h) || !isSpan(y0, y1)) {
            return BAD_LOCK;
        }
        Hanging of = hangings[h];
        for (int y = y0; y <= y1; y++) {
            if (!stand.reach(of, of.ux, of.uy, y)) {
                return y;
            }
        }
        return NONE;
    }

    public int weight(int g, int place, int right) {
        if (!isWithin(g, 0, 100000) || !isWithin(place, 0, 1000) || !isWithin(right, -500, 500)) {
            return BAD;
        }
        car.load(g, place, right);
        return 1;
    }

    public int push(int t, int share) {
        if (!isWithin(t, -100000, 100000) || !isWithin(share, 0, 1000)) {
            return BAD;
        }
        car.lean(t, share);
        return 1;
    }

    public int carries(int wheel) {
        return isWithin(wheel, 0, WHEELS - 1) ? car.loadOf(wheel) : BAD_WHEEL;
    }

    public int shim(int v) {
        return isWithin(v, 1, 500) ? shims.add(v) : BAD;
    }

    public int best(int v, int j) {
        return isWithin(v, 0, 2000) && isWithin(j, 0, 3) ? shims.nearestSet(v, j) : BAD;
    }

    public int reading(int y, int v) {
        return isCoordinate(y) && isWithin(v, -5000, 5000) ? readings.add(y, v) : BAD;
    }

    public int clear() {
        int gone = readings.size;
        readings.size = 0;
        return gone;
    }

    public long off(int h) {
        if (!isHanging(h)) {
            return BAD;
        }
        double far = howFarOff(hangings[h], 0, 0);
        return far < 0.0 ? NONE : Doubles.bits(far);
    }

    public long found(int h, int r, int what) {
        if (!isHanging(h) || !isWithin(r, 0, 3) || !isWithin(what, 0, 2)) {
            return BAD;
        }
        double least = -1.0;
        int moveX = 0;
        int moveY = 0;
        for (int x = -r; x <= r; x++) {
            for (int y = -r; y <= r; y++) {
                double far = howFarOff(hangings[h], x, y);
                if (far >= 0.0 && (least < 0.0 || far < least)) {
                    least = far;
                    moveX = x;
                    moveY = y;
                }
            }
        }
        if (least < 0.0) {
            return NONE;
        }
        if (what == 2) {
            return Doubles.bits(least);
        }
        return (what == 0 ? moveX : moveY) + MOVED_BIAS;
    }

    public int isClear(int h, int ox, int oy, int z, int y0, int y1) {
        if (!isHanging(h) || !isPoint(ox, oy) || !isWithin(z, 0, 500) || !isSpan(y0, y1)) {
            return BAD;
        }
        Hanging of = hangings[h];
        for (int y = y0; y <= y1; y++) {
            if (stand.reach(of, of.ux, of.uy, y)) {
                stand.placeUpright(of);
                if (stand.squareFrom(of, ox, oy) < z * z) {
                    return 0;
                }
            }
        }
        return 1;
    }

    public int count(int what) {
        if (!isWithin(what, 0, 1)) {
            return BAD;
        }
        return what == 0 ? shims.size : readings.size;
    }

    public long digest() {
        long h = mix(mix(229L, shims.size), readings.size);
        for (int i = 0; i < hangings.length; i++) {
            h = hangings[i].mixInto(h);
        }
        for (int i = 0; i < WHEELS; i++) {
            h = mix(h, car.loadOf(i));
        }
        return readings.mixInto(shims.mixInto(h));
    }

    private static long mix(long h, int v) {
        return 31L * h + v;
    }

    private static boolean isWithin(int v, int least, int most) {
        return v >= least && v <= most;
    }

    private static boolean isHanging(int h) {
        return isWithin(h, 0, HANGINGS - 1);
    }

    private static boolean isCoordinate(int v) {
        return isWithin(v, -FARTHEST, FARTHEST);
    }

    private static boolean isPoint(int x, int y) {
        return isCoordinate(x) && isCoordinate(y);
    }

    private static boolean isArm(int length) {
        return isWithin(length, 50, 1000);
    }

    private static boolean isSpan(int y0, int y1) {
        return isCoordinate(y0) && isCoordinate(y1) && y0 <= y1;
    }

    /** What of the pose is told of the ball joints and the wheel: 0 to 6. */
    private long tellWheel(Hanging of, int what) {
        switch (what) {
            case 0:
                return Doubles.bits(stand.px);
            case 1:
                return Doubles.bits(stand.py);
            case 2:
                return Doubles.bits(stand.qx);
            case 3:
                return Doubles.bits(stand.qy);
            case 4:
                return stand.vy == 0.0 ? NONE : leanBits();
            case 5:
                return Doubles.bits(stand.roadX(of));
            default:
                return Doubles.bits(stand.roadY(of));
        }
    }

    /**
     * The bits of a lean, after a look that vy is not 0. Of all that is told it alone may be -0.0: vx, a
     * difference, is 0.0 on a plumb upright, so that one stood upside down leans by 0.0 over less than nothing.
     */
    private long leanBits() {
        if (stand.vx == 0.0) {
            return stand.vy < 0.0 ? Doubles.SIGN : 0L;
        }
        return Doubles.bits(stand.vx / stand.vy);
    }

    /** What of the pose is told of the centre, the roll and the spring: 7 to 10. */
    private long tellTravel(Hanging of, int what) {
        if (what == 10) {
            return Doubles.bits(stand.springLength(of));
        }
        if (!stand.findCentre(of)) {
            return NONE;
        }
        if (what == 7) {
            return Doubles.bits(stand.ix);
        }
        if (what == 8) {
            return Doubles.bits(stand.iy);
        }
        double rx = stand.roadX(of);
        double ry = stand.roadY(of);
        if (stand.ix - rx == 0.0) {
            return NONE;
        }
        return Doubles.bits(ry + (0.0 - rx) * (stand.iy - ry) / (stand.ix - rx));
    }

    private long springShare(Hanging of, int y) {
        if (!stand.reach(of, of.ux, of.uy, y - 1)) {
            return NONE;
        }
        double below = stand.springLength(of);
        if (!stand.reach(of, of.ux, of.uy, y + 1)) {
            return NONE;
        }
        return Doubles.bits((below - stand.springLength(of)) / 2.0);
    }

    /** How far a hanging with its U moved is off, or less than 0.0 where that is none. */
    private double howFarOff(Hanging of, int moveX, int moveY) {
        int ux = of.ux + moveX;
        int uy = of.uy + moveY;
        if (!isPoint(ux, uy)) {
            return -1.0;
        }
        double sum = 0.0;
        for (int i = 0; i < readings.size; i++) {
            if (!stand.reach(of, ux, uy, readings.heights[i])) {
                return -1.0;
            }
            stand.placeUpright(of);
            if (stand.vy == 0.0) {
                return -1.0;
            }
            double far = 1000.0 * (stand.vx / stand.vy) - readings.leans[i];
            sum = sum + far * far;
        }
        return sum;
    }

    /** One hanging as it is told, in the document's letters. */
    private static final class Hanging {
        private int ux = 0, uy = 300, a = 300;
        private int lx = 0, ly = 0, b = 400;
        private int c = 300, side = 1;
        private int g = -100, d = 100;
        private int sx = 0, sy = 500, f = 500;

        private void setUpperArm(int x, int y, int length) {
            ux = x;
            uy = y;
            a = length;
        }

        private void setLowerArm(int x, int y, int length) {
            lx = x;
            ly = y;
            b = length;
        }

        private void setUpright(int length, int toSide) {
            c = length;
            side = toSide;
        }

        private void setRoadPoint(int along, int out) {
            g = along;
            d = out;
        }

        private void setSpring(int x, int y, int thousandths) {
            sx = x;
            sy = y;
            f = thousandths;
        }

        private void becomeMirrorOf(Hanging of) {
            setUpperArm(-of.ux, of.uy, of.a);
            setLowerArm(-of.lx, of.ly, of.b);
            setUpright(of.c, -of.side);
            setRoadPoint(of.g, of.d);
            setSpring(-of.sx, of.sy, of.f);
        }

        private long mixInto(long start) {
            long h = mix(mix(mix(mix(start, ux), uy), lx), ly);
            h = mix(mix(mix(mix(h, a), b), c), side);
            h = mix(mix(h, g), d);
            return mix(mix(mix(h, sx), sy), f);
        }
    }

    /**
     * Where a hanging stands at one y: one object is used again for every y, as all calls share one room.
     * The order of the sums and products is the document's, since the answers are told by their bits.
     */
    private static final class Stand {
        private int ux, uy;
        private double px, py, qx, qy;
        private double vx, vy;
        private double ix, iy;
        private double dx, dy, m, k;

        /** Places P; false if the hanging is locked there. */
        private boolean reach(Hanging of, int upperX, int upperY, int y) {
            int h = of.b * of.b - (y - of.ly) * (y - of.ly);
            if (h < 0) {
                return false;
            }
            ux = upperX;
            uy = upperY;
            px = of.lx + Doubles.squareRoot(h);
            py = y;
            dx = ux - px;
            dy = uy - py;
            double e = dx * dx + dy * dy;
            if (e == 0.0) {
                return false;
            }
            m = ((of.c * of.c - of.a * of.a) + e) / (2.0 * e);
            k = (of.c * of.c) / e - m * m;
            return k >= 0.0;
        }

        /** Places Q, after reach has answered true. */
        private void placeUpright(Hanging of) {
            double s = of.side * Doubles.squareRoot(k);
            qx = px + m * dx + s * dy;
            qy = py + m * dy - s * dx;
            vx = (qx - px) / of.c;
            vy = (qy - py) / of.c;
        }

        private double roadX(Hanging of) {
            return px + of.g * vx + of.d * vy;
        }

        private double roadY(Hanging of) {
            return py + of.g * vy - of.d * vx;
        }

        /** Finds the centre, after placeUpright; false if there is none. */
        private boolean findCentre(Hanging of) {
            double n = (qx - ux) * (py - of.ly) - (qy - uy) * (px - of.lx);
            if (n == 0.0) {
                return false;
            }
            double w = ((of.lx - ux) * (py - of.ly) - (of.ly - uy) * (px - of.lx)) / n;
            ix = ux + w * (qx - ux);
            iy = uy + w * (qy - uy);
            return true;
        }

        private double springLength(Hanging of) {
            double tx = of.lx + of.f * (px - of.lx) / 1000.0;
            double ty = of.ly + of.f * (py - of.ly) / 1000.0;
            return Doubles.squareRoot((tx - of.sx) * (tx - of.sx) + (ty - of.sy) * (ty - of.sy));
        }

        /** The square of the distance from a point to the upright, after placeUpright. */
        private double squareFrom(Hanging of, int ox, int oy) {
            double i = ((ox - px) * (qx - px) + (oy - py) * (qy - py)) / (of.c * of.c);
            i = i < 0.0 ? 0.0 : i;
            i = i > 1.0 ? 1.0 : i;
            double x = ox - (px + i * (qx - px));
            double y = oy - (py + i * (qy - py));
            return x * x + y * y;
        }
    }

    /** What the four wheels carry: front left, front right, rear left, rear right. */
    private static final class Car {
        private int total, place, right;
        private int toRight, frontShare;

        private void load(int newTotal, int newPlace, int newRight) {
            total = newTotal;
            place = newPlace;
            right = newRight;
        }

        private void lean(int newToRight, int newFrontShare) {
            toRight = newToRight;
            frontShare = newFrontShare;
        }

        private int loadOf(int wheel) {
            boolean isFront = wheel < 2;
            int rear = total * place / 1000;
            int axle = isFront ? total - rear : rear;
            int frontPart = toRight * frontShare / 1000;
            int part = isFront ? frontPart : toRight - frontPart;
            int onRight = axle * (500 + right) / 1000 + part;
            boolean isRight = (wheel & 1) == 1;
            return isRight ? onRight : axle - onRight;
        }
    }

    /** The shims, as they come. */
    private static final class ShimBox {
        private static final int ROOM = 10;

        private final int[] thick = new int[ROOM];
        private int size = 0;

        private int add(int v) {
            if (size >= ROOM) {
                return FULL;
            }
            thick[size] = v;
            size++;
            return size - 1;
        }

        /** Sets come rising, so that of like ones the first, being the least, stays. */
        private int nearestSet(int gap, int most) {
            int nearest = 0;
            int leastFar = gap;
            int fewest = 0;
            for (int set = 1; set < 1 << size; set++) {
                int parts = Integer.bitCount(set);
                int far = Math.abs(gap - sumOf(set));
                if (parts <= most && (far < leastFar || far == leastFar && parts < fewest)) {
                    nearest = set;
                    leastFar = far;
                    fewest = parts;
                }
            }
            return nearest;
        }

        private int sumOf(int set) {
            int sum = 0;
            for (int i = 0; i < size; i++) {
                sum += (set >> i & 1) == 1 ? thick[i] : 0;
            }
            return sum;
        }

        private long mixInto(long start) {
            long h = start;
            for (int i = 0; i < size; i++) {
                h = mix(h, thick[i]);
            }
            return h;
        }
    }

    /** The readings, as they come: a lean in thousandths at a height. */
    private static final class Readings {
        private static final int ROOM = 12;

        private final int[] heights = new int[ROOM];
        private final int[] leans = new int[ROOM];
        private int size = 0;

        private int add(int y, int lean) {
            if (size >= ROOM) {
                return FULL;
            }
            heights[size] = y;
            leans[size] = lean;
            size++;
            return size - 1;
        }

        private long mixInto(long start) {
            long h = start;
            for (int i = 0; i < size; i++) {
                h = mix(mix(h, heights[i]), leans[i]);
            }
            return h;
        }
    }

    /**
     * The root and the bits of a double, by arithmetic alone, as LANGUAGE.md leaves no library for them.
     * Made of whole numbers of 2000 at most, no number of a hanging comes near the ends of what a double
     * holds, so neither infinities nor doubles of fewer than 53 bits are looked after.
     */
    private static final class Doubles {
        private static final long UNIT = 1L << 52;
        private static final long SIGN = 1L << 63;
        private static final int BIAS = 1023;
        private static final int MOST_SCALINGS = 1100;
        private static final int MOST_STEPS = 16;

        private static double squareRoot(double x) {
            if (x <= 0.0) {
                return 0.0;
            }
            double part = x;
            double scale = 1.0;
            for (int i = 0; i < MOST_SCALINGS && part >= 4.0; i++) {
                part = part / 4.0;
                scale = scale * 2.0;
            }
            for (int i = 0; i < MOST_SCALINGS && part < 1.0; i++) {
                part = part * 4.0;
                scale = scale / 2.0;
            }
            return rootOfPart(part) * scale;
        }

        /** Of 1.0 <= x < 4.0, where Newton's steps come down to some last bits from the root in four. */
        private static double rootOfPart(double x) {
            double guess = (x + 2.0) / 3.0;
            for (int i = 0; i < 4; i++) {
                guess = (guess + x / guess) / 2.0;
            }
            long root = roundedRoot((long) (x * UNIT), (long) (guess * UNIT));
            return (double) root / UNIT;
        }

        /**
         * The whole number nearest the root of (units times 2 to the 52nd). Newton's guess comes from above:
         * rounded, it is the root cut to a whole number or little more, never less. The product and the
         * square are too big for a long, but their difference is not: wrapped around, it comes out right.
         */
        private static long roundedRoot(long units, long guess) {
            long root = guess;
            long rest = (units << 52) - root * root;
            for (int i = 0; i < MOST_STEPS && rest < 0; i++) {
                root--;
                rest += 2 * root + 1;
            }
            return rest > root ? root + 1 : root;
        }

        /** The bits of a double that is not -0.0, which no comparison tells from 0.0. */
        private static long bits(double x) {
            if (x == 0.0) {
                return 0L;
            }
            double part = x < 0.0 ? -x : x;
            long exponent = BIAS;
            for (int i = 0; i < MOST_SCALINGS && part >= 2.0; i++) {
                part = part / 2.0;
                exponent++;
            }
            for (int i = 0; i < MOST_SCALINGS && part < 1.0; i++) {
                part = part * 2.0;
                exponent--;
            }
            long fraction = (long) (part * UNIT) - UNIT;
            return (x < 0.0 ? SIGN : 0L) + (exponent << 52) + fraction;
        }
    }
}
