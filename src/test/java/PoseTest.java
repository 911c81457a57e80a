/**
 * Promises 2 to 7: hangings worked by hand. P is 400, 300 (3, 4, 5 hundreds); U is put where the upright of 500
 * comes out plumb, upside down or level, every number of it exact.
 */
public final class PoseTest {
    private static final Due due = new Due("PoseTest");

    public static void main(String[] args) {
        plumb();
        aside();
        upsideDown();
        level();
        parallel();
        springs();
        sharesAtTheEnds();
        mirrors();
        locks();
        roots();
        due.end();
    }

    private static WheelSwing hung(int ux, int uy, int side) {
        WheelSwing x = new WheelSwing();
        due.same("hang", x.hang(0, ux, uy, 0, 0, 500, 500, 500, side), 1);
        return x;
    }

    private static void tells(WheelSwing x, int y, double... want) {
        for (int what = 0; what < want.length; what++) {
            due.tells("pose(0, " + y + ", " + what + ")", x.pose(0, y, what), want[what]);
        }
    }

    private static void plumb() {
        WheelSwing x = hung(-80, 940, 1);
        double roll = 200.0 + (0.0 - 500.0) * 460.0 / 380.0;
        tells(x, 300, 400, 300, 400, 800, 0.0, 500, 200, 880, 660, roll);
        due.same("wheel", x.wheel(0, -200, 380), 1);
        tells(x, 300, 400, 300, 400, 800, 0.0, 780, 100, 880, 660, 100.0 - 780.0 * 560.0 / 100.0);
        due.same("wheel", x.wheel(0, -100, 480), 1);
        due.tells("rx under the centre", x.pose(0, 300, 5), 880);
        due.same("no roll, the centre being over rx", x.pose(0, 300, 9), -1);
        tells(hung(-80, 940, -1), 300, 400, 300, -80, 440);
        due.holds("lean of side -1", Math.abs(asDouble(hung(-80, 940, -1).pose(0, 300, 4)) + 24.0 / 7.0) < 1e-12);
    }

    /** The plumb one moved 100 out and 50 down: all that is told moves with it, but for the roll. */
    private static void aside() {
        WheelSwing x = new WheelSwing();
        x.hang(0, 20, 890, 100, -50, 500, 500, 500, 1);
        x.spring(0, 60, -170, 500);
        double roll = 150.0 + (0.0 - 600.0) * 460.0 / 380.0;
        tells(x, 250, 500, 250, 500, 750, 0.0, 600, 150, 980, 610, roll, Math.sqrt(240 * 240 + 270 * 270));
        x.spring(0, 60, -170, 100);
        due.tells("length to a tenth of the arm", x.pose(0, 250, 10), Math.sqrt(80 * 80 + 150 * 150));
    }

    private static double asDouble(long bits) {
        return Double.longBitsToDouble(bits);
    }

    private static void upsideDown() {
        WheelSwing x = hung(880, -340, 1);
        tells(x, 300, 400, 300, 400, -200, -0.0, 300, 400);
        x.reading(300, 0);
        due.tells("off at a lean of -0.0", x.off(0), 0.0);
    }

    private static void level() {
        WheelSwing x = hung(-240, -180, 1);
        tells(x, 300, 400, 300, -100, 300);
        due.same("no lean of a level upright", x.pose(0, 300, 4), -1);
        due.tells("rx of it", x.pose(0, 300, 5), 500);
        due.tells("ry of it", x.pose(0, 300, 6), 400);
        due.same("off", x.off(0), 0);
        x.reading(300, 0);
        due.same("off without lean", x.off(0), -1);
        due.same("found without lean", x.found(0, 0, 2), -1);
        due.holds("found beside it", x.found(0, 1, 2) >= 0);
    }

    private static void parallel() {
        WheelSwing x = new WheelSwing();
        x.hang(0, 0, 300, 0, 0, 400, 400, 300, 1);
        for (int what = 7; what <= 9; what++) {
            due.same("no centre of like arms: " + what, x.pose(0, 0, what), -1);
        }
        tells(x, 0, 400, 0, 400, 300, 0.0, 500, -100);
    }

    private static void springs() {
        WheelSwing x = hung(-80, 940, 1);
        due.tells("length at first", x.pose(0, 300, 10), Math.sqrt(200 * 200 + 350 * 350));
        due.same("spring", x.spring(0, 100, -100, 1000), 1);
        due.tells("length from P", x.pose(0, 300, 10), 500.0);
        due.same("spring", x.spring(0, 300, 400, 0), 1);
        due.tells("length from L", x.pose(0, 300, 10), 500.0);
        due.tells("share from L", x.pose(0, 300, 11), 0.0);
        due.same("spring", x.spring(0, 0, 0, 1000), 1);
        due.tells("length along the arm", x.pose(0, 300, 10), 500.0);
        due.same("spring", x.spring(0, 400, 0, 1000), 1);
        double below = Math.hypot(Math.sqrt(250000 - 299 * 299) - 400, 299);
        double above = Math.hypot(Math.sqrt(250000 - 301 * 301) - 400, 301);
        due.holds("share", Math.abs(asDouble(x.pose(0, 300, 11)) - (below - above) / 2) < 1e-12);
    }

    private static void sharesAtTheEnds() {
        WheelSwing x = new WheelSwing();
        due.same("no share: y + 1 is locked", x.pose(0, 400, 11), -1);
        due.holds("a share at 399", x.pose(0, 399, 11) >= 0);
        int lowest = lowestFree(x);
        due.same("no share: y - 1 is locked", x.pose(0, lowest, 11), -1);
        due.holds("a share one higher", x.pose(0, lowest + 1, 11) >= 0);
        x.hang(1, 50, 0, 0, 0, 50, 50, 50, 1);
        due.same("locked at 0", x.pose(1, 0, 10), -1);
        due.holds("yet a share at 0", asDouble(x.pose(1, 0, 11)) > 0.0);
        x.hang(2, 0, 1000, 0, 900, 900, 900, 100, 1);
        x.hang(3, 0, -1000, 0, -900, 900, 900, 100, -1);
        due.holds("a share at 1000", x.pose(2, 1000, 11) != -1 && x.pose(2, 1000, 11) != -2);
        due.holds("a share at -1000", x.pose(3, -1000, 11) != -1 && x.pose(3, -1000, 11) != -2);
    }

    private static int lowestFree(WheelSwing x) {
        int y = 0;
        while (x.lock(0, y - 1, y - 1) == -1) {
            y--;
        }
        return y;
    }

    private static void mirrors() {
        WheelSwing x = new WheelSwing();
        WheelSwing y = new WheelSwing();
        x.hang(1, -80, 940, 30, 20, 510, 520, 530, -1);
        x.wheel(1, -70, 60);
        x.spring(1, 40, 410, 300);
        due.same("mirror(1, 3)", x.mirror(1, 3), 1);
        due.same("mirror(1, 1)", x.mirror(1, 1), 1);
        for (int h = 1; h <= 3; h += 2) {
            y.hang(h, 80, 940, -30, 20, 510, 520, 530, 1);
            y.wheel(h, -70, 60);
            y.spring(h, -40, 410, 300);
        }
        due.same("digest after mirrors", x.digest(), y.digest());
        due.same("mirrored px", x.pose(3, 300, 0), y.pose(3, 300, 0));
        due.same("mirrored back", x.mirror(3, 3), 1);
        y.hang(3, -80, 940, 30, 20, 510, 520, 530, -1);
        y.spring(3, 40, 410, 300);
        due.same("digest after mirroring back", x.digest(), y.digest());
    }

    private static void locks() {
        WheelSwing x = new WheelSwing();
        due.same("lock up", x.lock(0, 0, 1000), 401);
        due.same("lock from beyond", x.lock(0, 500, 600), 500);
        due.same("lock from the least", x.lock(0, -1000, 1000), -1000);
        due.same("no lock", x.lock(0, 0, 400), -1);
        due.same("one free y", x.lock(0, 400, 400), -1);
        due.same("one locked y", x.lock(0, 401, 401), 401);
        x.hang(1, 50, 0, 0, 0, 50, 50, 50, 1);
        due.same("locked where P is on U", x.lock(1, -5, 5), 0);
        due.same("px of none", x.pose(1, 0, 0), -1);
        x.hang(2, 0, 0, 0, 0, 50, 50, 100, 1);
        due.same("arms just reach", x.lock(2, 0, 0), -1);
        x.hang(2, 0, 0, 0, 0, 50, 50, 101, 1);
        due.same("arms do not reach", x.lock(2, 0, 0), 0);
        due.same("what of none", x.pose(2, 0, 10), -1);
        x.hang(3, 51, 0, 0, 0, 50, 50, 50, 1);
        due.same("not locked 1 beside U", x.lock(3, 0, 0), -1);
    }

    /** All whole numbers under the root for one arm, and the quotient's root through Q. */
    private static void roots() {
        for (int b = 50; b <= 1000; b += 190) {
            WheelSwing x = new WheelSwing();
            x.hang(0, 0, 300, 0, 0, b, b, 300, 1);
            for (int y = 0; y <= b; y++) {
                if (x.pose(0, y, 1) != -1) {
                    due.tells("px of " + b + " at " + y, x.pose(0, y, 0), Math.sqrt(b * b - y * y));
                }
            }
        }
    }
}
