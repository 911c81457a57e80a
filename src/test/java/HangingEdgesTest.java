/**
 * The edges that the document names in 'HANGINGS' and in promises 2 to 7: one method a sentence, with what
 * lies on both sides of it. Where a hanging stands is worked by hand; U, L and the arms are chosen for that.
 */
public final class HangingEdgesTest {
    private static final Due due = new Due("HangingEdgesTest");
    private static final int LAST_OF_POSE = 10;

    public static void main(String[] args) {
        hangingsAreFour();
        atFirst();
        hangLeavesWheelAndSpring();
        lockedWhereTheLowerArmEnds();
        lockedWhereTheLowerArmEndsBeyondTheBounds();
        lockedWherePIsOnU();
        lockedWhereTheUprightIsTooFar();
        lockedWhereTheUprightIsTooNear();
        lockedTellsNothing();
        leanIsNoneLevel();
        leanUpsideDown();
        leanPlumbWhereRounded();
        noCentre();
        noRoll();
        roadPointAtItsBounds();
        springAtItsBounds();
        noShareBesideALock();
        shareWhereLocked();
        shareBeyondTheBounds();
        lockTellsTheLeast();
        lockAtTheEndsOfTheSpan();
        lockAnswersThatLookRefused();
        spanTurnedAbout();
        mirrorOfItself();
        mirrorOfAnother();
        mirrorIsWorkedAsTold();
        due.end();
    }

    /** U and L of hanging 0; SIDE 1. */
    private static WheelSwing hung(int ux, int uy, int lx, int ly, int a, int b, int c) {
        WheelSwing x = new WheelSwing();
        due.same("hang", x.hang(0, ux, uy, lx, ly, a, b, c, 1), 1);
        return x;
    }

    private static void free(String told, WheelSwing x, int y) {
        due.same(told + ": lock at " + y, x.lock(0, y, y), -1);
        for (int what = 0; what < 4; what++) {
            long answer = x.pose(0, y, what);
            due.holds(told + ": pose " + what + " at " + y, answer != -1 && answer != -2);
        }
    }

    private static void locked(String told, WheelSwing x, int y) {
        due.same(told + ": lock at " + y, x.lock(0, y, y), y);
        for (int what = 0; what <= LAST_OF_POSE; what++) {
            due.same(told + ": pose " + what + " at " + y, x.pose(0, y, what), -1);
        }
    }

    private static double asDouble(long bits) {
        return Double.longBitsToDouble(bits);
    }

    /** Of the spring's first point S (0, 500) and f 500, L and P standing where they are told. */
    private static double length(double px, double py, int lx, int ly) {
        double tx = lx + 500 * (px - lx) / 1000.0;
        double ty = ly + 500 * (py - ly) / 1000.0;
        return Math.sqrt((tx - 0) * (tx - 0) + (ty - 500) * (ty - 500));
    }

    private static void hangingsAreFour() {
        WheelSwing x = new WheelSwing();
        for (int h = 0; h < 4; h++) {
            due.same("hang " + h, x.hang(h, 0, 300, 0, 0, 300, 401 + h, 300, 1), 1);
        }
        for (int h = 0; h < 4; h++) {
            due.tells("each hanging its own: " + h, x.pose(h, 0, 0), 401 + h);
        }
        long before = x.digest();
        for (int h : new int[] {-1, 4}) {
            due.same("no hanging " + h, x.hang(h, 0, 300, 0, 0, 300, 400, 300, 1), -2);
            due.same("no wheel " + h, x.wheel(h, 0, 0), -2);
            due.same("no spring " + h, x.spring(h, 0, 0, 0), -2);
            due.same("no mirror from " + h, x.mirror(h, 0), -2);
            due.same("no mirror to " + h, x.mirror(0, h), -2);
            due.same("no pose of " + h, x.pose(h, 0, 0), -2);
            due.same("no share of " + h, x.pose(h, 0, 11), -2);
            due.same("no lock of " + h, x.lock(h, 0, 0), -2000);
        }
        due.same("refused, changing nothing", x.digest(), before);
    }

    private static void atFirst() {
        WheelSwing x = new WheelSwing();
        WheelSwing told = new WheelSwing();
        for (int h = 0; h < 4; h++) {
            told.hang(h, 0, 300, 0, 0, 300, 400, 300, 1);
            told.wheel(h, -100, 100);
            told.spring(h, 0, 500, 500);
            for (int what = 0; what <= 11; what++) {
                due.same("first pose " + what, x.pose(h, 40, what), told.pose(h, 40, what));
            }
        }
        due.same("at first as told", x.digest(), told.digest());
    }

    private static void hangLeavesWheelAndSpring() {
        WheelSwing x = new WheelSwing();
        x.wheel(0, 0, 7);
        x.spring(0, 400, 5, 1000);
        x.hang(0, 0, 300, 0, 0, 400, 400, 300, 1);
        due.tells("rx of a plumb upright", x.pose(0, 0, 5), 407);
        due.tells("ry of it", x.pose(0, 0, 6), 0);
        due.tells("length from the point below P", x.pose(0, 0, 10), 5);
    }

    /** "h is (b b - (y - ly) (y - ly)); below 0: it is LOCKED": at 0 it is not. */
    private static void lockedWhereTheLowerArmEnds() {
        WheelSwing x = hung(0, 0, 0, 0, 50, 50, 50);
        locked("arm too low", x, -51);
        free("arm straight down", x, -50);
        due.tells("px straight down", x.pose(0, -50, 0), 0.0);
        due.tells("py straight down", x.pose(0, -50, 1), -50.0);
        free("arm straight up", x, 50);
        due.tells("px straight up", x.pose(0, 50, 0), 0.0);
        locked("arm too high", x, 51);
        WheelSwing aside = hung(-7, 20, -7, 20, 50, 50, 50);
        locked("arm of L too low", aside, -31);
        due.tells("px below L", aside.pose(0, -30, 0), -7.0);
        due.tells("px above L", aside.pose(0, 70, 0), -7.0);
        locked("arm of L too high", aside, 71);
    }

    private static void lockedWhereTheLowerArmEndsBeyondTheBounds() {
        WheelSwing high = hung(0, 1000, 0, 1000, 1000, 1000, 1000);
        free("at the top", high, 1000);
        due.tells("px at the top", high.pose(0, 1000, 0), 1000.0);
        free("straight down from the top", high, 0);
        locked("below that", high, -1);
        locked("at the far end", high, -1000);
        WheelSwing low = hung(0, -1000, 0, -1000, 1000, 1000, 1000);
        free("at the foot", low, -1000);
        free("straight up from the foot", low, 0);
        locked("above that", low, 1);
        locked("at the other far end", low, 1000);
    }

    /** "LOCKED, if e is 0", be the arm and the upright alike or not. */
    private static void lockedWherePIsOnU() {
        for (int c = 50; c <= 51; c++) {
            WheelSwing x = hung(50, 0, 0, 0, 50, 50, c);
            locked("P on U, upright " + c, x, 0);
        }
        WheelSwing x = hung(50, 0, 0, 0, 50, 50, 50);
        free("P a little over U", x, 1);
        free("P a little under U", x, -1);
        free("U 1 out of P", hung(51, 0, 0, 0, 50, 50, 50), 0);
        free("U 1 within P", hung(49, 0, 0, 0, 50, 50, 50), 0);
        free("U 1 over P", hung(50, 1, 0, 0, 50, 50, 50), 0);
    }

    /** "LOCKED, if k is below 0": at 0, the arm and the upright in one line, it is not. P is 50, 0. */
    private static void lockedWhereTheUprightIsTooFar() {
        free("apart by less than both", hung(149, 0, 0, 0, 50, 50, 50), 0);
        WheelSwing straight = hung(150, 0, 0, 0, 50, 50, 50);
        free("apart by both", straight, 0);
        due.tells("qx between", straight.pose(0, 0, 2), 100.0);
        due.tells("qy between", straight.pose(0, 0, 3), 0.0);
        locked("apart by more than both", hung(151, 0, 0, 0, 50, 50, 50), 0);
    }

    private static void lockedWhereTheUprightIsTooNear() {
        free("upright 1 short of the line", hung(0, 0, 0, 0, 50, 50, 99), 0);
        WheelSwing x = hung(0, 0, 0, 0, 50, 50, 100);
        free("upright in line, beyond U", x, 0);
        due.tells("qx beyond U", x.pose(0, 0, 2), -50.0);
        locked("upright too long", hung(0, 0, 0, 0, 50, 50, 101), 0);
        free("arm 1 short of the line", hung(100, 0, 0, 0, 99, 50, 50), 0);
        WheelSwing turned = hung(100, 0, 0, 0, 100, 50, 50);
        free("arm in line, beyond P", turned, 0);
        due.tells("qx beyond P", turned.pose(0, 0, 2), 0.0);
        locked("arm too long", hung(100, 0, 0, 0, 101, 50, 50), 0);
        free("upright in line, short", hung(150, 0, 0, 0, 200, 50, 100), 0);
        locked("upright too short", hung(150, 0, 0, 0, 200, 50, 99), 0);
    }

    /** Of a LOCKED pose nothing is told, though LENGTH needs no more than P. */
    private static void lockedTellsNothing() {
        WheelSwing x = hung(151, 0, 0, 0, 50, 50, 50);
        x.spring(0, 0, 0, 0);
        due.same("px of a lock", x.pose(0, 0, 0), -1);
        due.same("length of a lock", x.pose(0, 0, 10), -1);
        due.same("not refused, only none, at 1000", x.pose(0, 1000, 10), -1);
        due.same("refused at 1001", x.pose(0, 1001, 10), -2);
        due.same("not refused, only none, at -1000", x.pose(0, -1000, 0), -1);
        due.same("refused at -1001", x.pose(0, -1001, 0), -2);
        due.same("no pose -1", x.pose(0, 0, -1), -2);
        due.same("no pose 12", x.pose(0, 0, 12), -2);
    }

    /** "THE LEAN: vx / vy (none, if vy is 0)": all else is told. The upright lies from 50, 0 to -50, 0. */
    private static void leanIsNoneLevel() {
        WheelSwing x = hung(0, 0, 0, 0, 50, 50, 100);
        due.same("no lean lying inward", x.pose(0, 0, 4), -1);
        due.tells("rx lying inward", x.pose(0, 0, 5), 150.0);
        due.tells("ry lying inward", x.pose(0, 0, 6), 100.0);
        WheelSwing out = hung(150, 0, 0, 0, 50, 50, 50);
        due.same("no lean lying outward", out.pose(0, 0, 4), -1);
        due.tells("rx lying outward", out.pose(0, 0, 5), -50.0);
        due.tells("ry lying outward", out.pose(0, 0, 6), -100.0);
        due.holds("a great lean all but level", asDouble(hung(50, 0, 0, 0, 50, 50, 50).pose(0, -1, 4)) > 1e14);
    }

    /** P is 400, 300; Q is 400, 800 or 400, -200: 0.0 over 1.0 and over -1.0. */
    private static void leanUpsideDown() {
        due.same("lean of 0.0", hung(-80, 940, 0, 0, 500, 500, 500).pose(0, 300, 4), 0L);
        due.same("lean of -0.0", hung(880, -340, 0, 0, 500, 500, 500).pose(0, 300, 4), 1L << 63);
    }

    /** vx is 0.0 there, but vy, being rounded, is not just 1.0 or -1.0. */
    private static void leanPlumbWhereRounded() {
        WheelSwing x = hung(304, 178, 0, 0, 160, 400, 50);
        due.tells("upright, P below Q", x.pose(0, 0, 2), asDouble(x.pose(0, 0, 0)));
        due.holds("vy a last bit short of 1.0", asDouble(x.pose(0, 0, 3)) < 50.0);
        due.same("lean of 0.0", x.pose(0, 0, 4), 0L);
        WheelSwing down = hung(433, -6, 0, 0, 55, 400, 50);
        due.holds("vy a last bit beyond -1.0", asDouble(down.pose(0, 0, 3)) < -50.0);
        due.same("lean of -0.0", down.pose(0, 0, 4), 1L << 63);
        WheelSwing shy = new WheelSwing();
        shy.hang(0, 278, 111, 167, -53, 290, 159, 122, -1);
        due.holds("vy a last bit short of -1.0", asDouble(shy.pose(0, -53, 3)) > -53.0 - 122.0);
        due.same("lean of -0.0 there too", shy.pose(0, -53, 4), 1L << 63);
    }

    /** "THE CENTRE: .. none, if n is 0": arms of one direction. "THE ROLL: none without a CENTRE". */
    private static void noCentre() {
        WheelSwing x = hung(0, 300, 0, 0, 400, 400, 300);
        for (int what = 7; what <= 9; what++) {
            due.same("none of like arms: " + what, x.pose(0, 0, what), -1);
            due.same("none of like arms: " + what, x.pose(0, 240, what), -1);
        }
        due.tells("yet a lean", x.pose(0, 0, 4), 0.0);
        WheelSwing line = hung(0, 0, 0, 0, 50, 50, 100);
        for (int what = 7; what <= 9; what++) {
            due.same("none of arms in one line: " + what, line.pose(0, 0, what), -1);
        }
        WheelSwing shorter = hung(0, 300, 0, 0, 399, 400, 300);
        for (int what = 7; what <= 9; what++) {
            long answer = shorter.pose(0, 0, what);
            due.holds("told of arms 1 apart: " + what, answer != -1 && answer != -2);
        }
    }

    /** "THE ROLL: none .. if ix - rx is 0": the centre is 880, 660, the road point 400 + d, 200. */
    private static void noRoll() {
        WheelSwing x = hung(-80, 940, 0, 0, 500, 500, 500);
        x.wheel(0, -100, 479);
        due.tells("roll of rx 1 short of ix", x.pose(0, 300, 9), 200.0 + (0.0 - 879.0) * 460.0 / 1.0);
        x.wheel(0, -100, 480);
        due.same("no roll", x.pose(0, 300, 9), -1);
        due.tells("yet ix", x.pose(0, 300, 7), 880.0);
        due.tells("yet iy", x.pose(0, 300, 8), 660.0);
        x.wheel(0, -100, 481);
        due.tells("roll of rx 1 beyond ix", x.pose(0, 300, 9), 200.0 + (0.0 - 881.0) * 460.0 / -1.0);
        x.wheel(0, -100, 460);
        due.tells("roll of rx 20 short of ix", x.pose(0, 300, 9), 200.0 + (0.0 - 860.0) * 460.0 / 20.0);
        x.wheel(0, -100, -400);
        due.tells("roll of rx 0", x.pose(0, 300, 9), 200.0);
        x.wheel(0, 360, 0);
        due.tells("roll of ry at iy", x.pose(0, 300, 9), 660.0);
    }

    private static void roadPointAtItsBounds() {
        WheelSwing x = hung(-80, 940, 0, 0, 500, 500, 500);
        int[][] bounds = {{-1000, -1000}, {1000, 1000}, {-1000, 1000}, {0, 0}};
        for (int[] b : bounds) {
            due.same("wheel", x.wheel(0, b[0], b[1]), 1);
            due.tells("rx", x.pose(0, 300, 5), 400.0 + b[1]);
            due.tells("ry", x.pose(0, 300, 6), 300.0 + b[0]);
        }
        long before = x.digest();
        due.same("g too small", x.wheel(0, -1001, 0), -2);
        due.same("g too large", x.wheel(0, 1001, 0), -2);
        due.same("d too small", x.wheel(0, 0, -1001), -2);
        due.same("d too large", x.wheel(0, 0, 1001), -2);
        due.same("refused, changing nothing", x.digest(), before);
    }

    /** f 0 is at L, f 1000 at P. */
    private static void springAtItsBounds() {
        WheelSwing x = hung(-80, 940, 0, 0, 500, 500, 500);
        due.same("spring to L", x.spring(0, 0, 0, 0), 1);
        due.tells("length at L", x.pose(0, 300, 10), 0.0);
        due.tells("share at L", x.pose(0, 300, 11), 0.0);
        due.same("spring to P", x.spring(0, 400, 300, 1000), 1);
        due.tells("length at P", x.pose(0, 300, 10), 0.0);
        due.same("spring from a far point", x.spring(0, -1000, -1000, 0), 1);
        due.tells("length from it", x.pose(0, 300, 10), Math.sqrt(2000000));
        due.same("spring from another", x.spring(0, 1000, 1000, 0), 1);
        due.tells("length from that", x.pose(0, 300, 10), Math.sqrt(2000000));
        long before = x.digest();
        due.same("f too small", x.spring(0, 0, 0, -1), -2);
        due.same("f too large", x.spring(0, 0, 0, 1001), -2);
        due.same("sx too small", x.spring(0, -1001, 0, 0), -2);
        due.same("sx too large", x.spring(0, 1001, 0, 0), -2);
        due.same("sy too small", x.spring(0, 0, -1001, 0), -2);
        due.same("sy too large", x.spring(0, 0, 1001, 0), -2);
        due.same("refused, changing nothing", x.digest(), before);
    }

    /** "ITS SHARE .. none, if one of these two is LOCKED". */
    private static void noShareBesideALock() {
        WheelSwing x = hung(50, 0, 0, 0, 50, 50, 50);
        due.same("y - 1 alone is locked", x.pose(0, 1, 11), -1);
        due.same("y + 1 alone is locked", x.pose(0, -1, 11), -1);
        due.same("y + 1 is beyond the arm", x.pose(0, 50, 11), -1);
        due.same("y - 1 is beyond the arm", x.pose(0, -50, 11), -1);
        due.same("both are locked", x.pose(0, 60, 11), -1);
        for (int y : new int[] {-49, -2, 2, 49}) {
            double below = asDouble(x.pose(0, y - 1, 10));
            double above = asDouble(x.pose(0, y + 1, 10));
            due.tells("share at " + y, x.pose(0, y, 11), (below - above) / 2.0);
        }
    }

    /** ".. y itself may be": told where y is LOCKED and y - 1, y + 1 are not. */
    private static void shareWhereLocked() {
        WheelSwing x = hung(50, 1, 0, 1, 50, 50, 50);
        due.same("locked at 1", x.pose(0, 1, 10), -1);
        double below = length(Math.sqrt(2499), 0, 0, 1);
        double above = length(Math.sqrt(2499), 2, 0, 1);
        due.tells("share at 1", x.pose(0, 1, 11), (below - above) / 2.0);
        due.same("one beyond the arm, two below its end", x.pose(0, 52, 11), -1);
    }

    /** ".. y - 1, y + 1 may lie beyond -1000 .. 1000": LOCKED there or not. */
    private static void shareBeyondTheBounds() {
        for (int end = -1000; end <= 1000; end += 2000) {
            int in = end > 0 ? -1 : 1;
            WheelSwing x = hung(0, end + 100 * in, 0, end + 100 * in, 900, 900, 900);
            double inner = length(Math.sqrt(810000 - 99 * 99), end + in, 0, end + 100 * in);
            double outer = length(Math.sqrt(810000 - 101 * 101), end - in, 0, end + 100 * in);
            due.tells("share at " + end, x.pose(0, end, 11), (inner - outer) / 2.0 * -in);
            WheelSwing just = hung(0, end + 50 * in, 0, end + 50 * in, 51, 51, 51);
            double last = length(0, end - in, 0, end + 50 * in);
            inner = length(Math.sqrt(51 * 51 - 49 * 49), end + in, 0, end + 50 * in);
            due.tells("share with the last beyond " + end, just.pose(0, end, 11), (inner - last) / 2.0 * -in);
            WheelSwing shy = hung(0, end + 50 * in, 0, end + 50 * in, 50, 50, 50);
            free("at the arm's end", shy, end);
            due.same("no share, locked beyond " + end, shy.pose(0, end, 11), -1);
            WheelSwing on = hung(50, end, 0, end, 50, 50, 50);
            locked("P on U at the end", on, end);
            double below = length(Math.sqrt(2499), end - 1, 0, end);
            double above = length(Math.sqrt(2499), end + 1, 0, end);
            due.tells("yet a share at " + end, on.pose(0, end, 11), (below - above) / 2.0);
            due.same("no y beyond " + end, x.pose(0, end - in, 11), -2);
        }
    }

    private static void lockTellsTheLeast() {
        WheelSwing x = hung(50, 0, 0, 0, 50, 50, 50);
        due.same("one of several", x.lock(0, -50, 50), 0);
        due.same("two of several: the least", x.lock(0, -51, 50), -51);
        due.same("none below it", x.lock(0, -50, -1), -1);
        due.same("none above it", x.lock(0, 1, 50), -1);
        due.same("the first beyond", x.lock(0, 1, 1000), 51);
        due.same("it alone", x.lock(0, 0, 0), 0);
    }

    private static void lockAtTheEndsOfTheSpan() {
        WheelSwing x = hung(50, 0, 0, 0, 50, 50, 50);
        due.same("y1 counts", x.lock(0, -10, 0), 0);
        due.same("y1 counts beyond the arm", x.lock(0, 1, 51), 51);
        due.same("y0 counts", x.lock(0, 0, 10), 0);
        due.same("y0 counts beyond the arm", x.lock(0, -51, -1), -51);
        due.same("the whole travel", x.lock(0, -1000, 1000), -1000);
        due.same("its least y", x.lock(0, -1000, -1000), -1000);
        due.same("its greatest y", x.lock(0, 1000, 1000), 1000);
        WheelSwing high = hung(0, 1000, 0, 1000, 1000, 1000, 1000);
        due.same("none up to 1000", high.lock(0, 0, 1000), -1);
        WheelSwing low = hung(0, -1000, 0, -1000, 1000, 1000, 1000);
        due.same("none from -1000", low.lock(0, -1000, 0), -1);
        for (int y : new int[] {-1001, 1001}) {
            due.same("y0 beyond: " + y, x.lock(0, y, 1000), -2000);
            due.same("y1 beyond: " + y, x.lock(0, -1000, y), -2000);
        }
    }

    /** "(At -1: -1.)" and a LOCKED -2, -4: no refusals. */
    private static void lockAnswersThatLookRefused() {
        for (int y : new int[] {-1, -2, -4}) {
            WheelSwing x = hung(50, y, 0, y, 50, 50, 50);
            locked("P on U at " + y, x, y);
            due.same("locked among others at " + y, x.lock(0, -10, 10), y);
            due.same("none after " + y, x.lock(0, y + 1, 10), -1);
        }
    }

    private static void spanTurnedAbout() {
        WheelSwing x = new WheelSwing();
        due.same("y0 at y1", x.lock(0, 5, 5), -1);
        due.same("y0 above y1", x.lock(0, 6, 5), -2000);
        due.same("y0 above y1, both locked", x.lock(0, 1000, -1000), -2000);
        due.same("y0 above y1 and no hanging", x.lock(4, 6, 5), -2000);
    }

    private static void mirrorOfItself() {
        WheelSwing x = new WheelSwing();
        WheelSwing told = new WheelSwing();
        x.hang(2, 1000, -1000, -1000, 1000, 50, 1000, 51, -1);
        x.wheel(2, -1000, 1000);
        x.spring(2, -1000, 1000, 1000);
        long before = x.digest();
        due.same("mirror(2, 2)", x.mirror(2, 2), 1);
        told.hang(2, -1000, -1000, 1000, 1000, 50, 1000, 51, 1);
        told.wheel(2, -1000, 1000);
        told.spring(2, 1000, 1000, 1000);
        due.same("digest of the mirror", x.digest(), told.digest());
        due.same("mirror(2, 2) again", x.mirror(2, 2), 1);
        due.same("digest as before", x.digest(), before);
    }

    private static void mirrorOfAnother() {
        WheelSwing x = new WheelSwing();
        WheelSwing told = new WheelSwing();
        x.hang(0, 1, 2, 3, 4, 55, 66, 77, 1);
        x.wheel(0, 5, 6);
        x.spring(0, 7, 8, 9);
        told.hang(0, 1, 2, 3, 4, 55, 66, 77, 1);
        told.wheel(0, 5, 6);
        told.spring(0, 7, 8, 9);
        due.same("mirror(0, 3)", x.mirror(0, 3), 1);
        told.hang(3, -1, 2, -3, 4, 55, 66, 77, -1);
        told.wheel(3, 5, 6);
        told.spring(3, -7, 8, 9);
        due.same("the other stays as it is", x.digest(), told.digest());
        x.hang(0, 0, 300, 0, 0, 300, 400, 300, 1);
        told.hang(0, 0, 300, 0, 0, 300, 400, 300, 1);
        due.same("the mirror stays as it was", x.digest(), told.digest());
        long before = x.digest();
        due.same("from too small", x.mirror(-1, 0), -2);
        due.same("from too large", x.mirror(4, 0), -2);
        due.same("to too small", x.mirror(0, -1), -2);
        due.same("to too large", x.mirror(0, 4), -2);
        due.same("refused, changing nothing", x.digest(), before);
    }

    /** "it is worked as told all the same (P lies out of L)": U is 80, 940, SIDE is -1. */
    private static void mirrorIsWorkedAsTold() {
        WheelSwing x = hung(-80, 940, 0, 0, 500, 500, 500);
        WheelSwing told = new WheelSwing();
        told.hang(0, 80, 940, 0, 0, 500, 500, 500, -1);
        x.mirror(0, 0);
        due.tells("P out of L", x.pose(0, 300, 0), 400.0);
        for (int what = 0; what <= 11; what++) {
            due.same("pose " + what, x.pose(0, 300, what), told.pose(0, 300, what));
        }
    }
}
