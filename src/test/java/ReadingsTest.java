/** Promises 13 to 17: readings, how far off, what is found, what is clear. */
public final class ReadingsTest {
    private static final Due due = new Due("ReadingsTest");

    public static void main(String[] args) {
        readings();
        howFarOff();
        findsWhatIsHidden();
        firstOfLike();
        staysWithinBounds();
        clearOfPlumb();
        clearThroughTravel();
        due.end();
    }

    private static void readings() {
        WheelSwing x = new WheelSwing();
        for (int i = 0; i < 12; i++) {
            due.same("reading", x.reading(i, -i), i);
        }
        due.same("a thirteenth", x.reading(0, 0), -4);
        due.same("count", x.count(1), 12);
        due.same("clear", x.clear(), 12);
        due.same("clear again", x.clear(), 0);
        due.same("count", x.count(1), 0);
        due.same("first again", x.reading(-1000, 5000), 0);
        due.same("second again", x.reading(1000, -5000), 1);
        due.same("digest of new", new WheelSwing().digest() == x.digest() ? 1 : 0, 0);
        x.clear();
        due.same("digest cleared", x.digest(), new WheelSwing().digest());
    }

    private static void howFarOff() {
        WheelSwing x = new WheelSwing();
        due.tells("off of none", x.off(0), 0.0);
        x.hang(0, -80, 940, 0, 0, 500, 500, 500, 1);
        x.reading(300, 3);
        due.tells("off by 3", x.off(0), 9.0);
        x.reading(300, -4);
        due.tells("off by 3 and 4", x.off(0), 25.0);
        x.reading(299, 0);
        double lean = 1000.0 * Double.longBitsToDouble(x.pose(0, 299, 4));
        due.tells("off at 299", x.off(0), 25.0 + lean * lean);
        x.reading(501, 0);
        due.same("off where it is locked", x.off(0), -1);
        due.same("off of another", x.off(1), -1);
    }

    /** Readings taken of a moved U bring it back, rounded as they are to thousandths. */
    private static void findsWhatIsHidden() {
        WheelSwing hidden = new WheelSwing();
        hidden.hang(0, 2, 297, 0, 0, 300, 400, 300, 1);
        WheelSwing x = new WheelSwing();
        for (int y = -100; y <= 100; y += 20) {
            double lean = 1000.0 * Double.longBitsToDouble(hidden.pose(0, y, 4));
            x.reading(y, (int) Math.round(lean));
        }
        due.same("found x", x.found(0, 3, 0), 12);
        due.same("found y", x.found(0, 3, 1), 7);
        long least = x.found(0, 3, 2);
        due.same("found unmoved x", x.found(0, 0, 0), 10);
        due.same("found unmoved", x.found(0, 0, 2), x.off(0));
        due.same("nothing is moved by finding", x.off(0) > least ? 1 : 0, 1);
        x.hang(0, 2, 297, 0, 0, 300, 400, 300, 1);
        due.same("off once moved", x.off(0), least);
        due.same("then found there", x.found(0, 3, 0), 10);
    }

    private static void firstOfLike() {
        WheelSwing x = new WheelSwing();
        for (int r = 0; r <= 3; r++) {
            due.same("first x of like ones", x.found(0, r, 0), 10 - r);
            due.same("first y of like ones", x.found(0, r, 1), 10 - r);
            due.tells("all are as far off", x.found(0, r, 2), 0.0);
        }
        x.reading(1000, 0);
        for (int what = 0; what < 3; what++) {
            due.same("none is found", x.found(0, 3, what), -1);
        }
    }

    private static void staysWithinBounds() {
        WheelSwing x = new WheelSwing();
        x.hang(0, -999, -1000, 0, 0, 300, 400, 300, 1);
        due.same("x no less than -1000", x.found(0, 3, 0), 9);
        due.same("y no less than -1000", x.found(0, 3, 1), 10);
        WheelSwing hidden = new WheelSwing();
        hidden.hang(0, 999, 1000, 900, 700, 300, 300, 300, 1);
        hidden.reading(700, 2000);
        WheelSwing model = new WheelSwing();
        model.hang(0, 999, 1000, 900, 700, 300, 300, 300, 1);
        model.reading(700, 2000);
        due.holds("x stays at 1000 at most", model.found(0, 3, 0) <= 11);
        due.holds("y stays at 1000 at most", model.found(0, 3, 1) <= 10);
        due.same("the same each time", model.found(0, 3, 2), hidden.found(0, 3, 2));
    }

    /** The upright stands from 400, 300 to 400, 800. */
    private static void clearOfPlumb() {
        WheelSwing x = new WheelSwing();
        x.hang(0, -80, 940, 0, 0, 500, 500, 500, 1);
        due.same("beside, just clear", x.isClear(0, 450, 500, 50, 300, 300), 1);
        due.same("beside, not clear", x.isClear(0, 450, 500, 51, 300, 300), 0);
        due.same("on the other side", x.isClear(0, 350, 500, 50, 300, 300), 1);
        due.same("above the top, just clear", x.isClear(0, 400, 900, 100, 300, 300), 1);
        due.same("above the top, not clear", x.isClear(0, 400, 900, 101, 300, 300), 0);
        due.same("off the top", x.isClear(0, 430, 840, 50, 300, 300), 1);
        due.same("off the top, not clear", x.isClear(0, 430, 840, 51, 300, 300), 0);
        due.same("off the foot", x.isClear(0, 370, 260, 50, 300, 300), 1);
        due.same("off the foot, not clear", x.isClear(0, 370, 260, 51, 300, 300), 0);
        due.same("on it, by 0", x.isClear(0, 400, 500, 0, 300, 300), 1);
        due.same("on it, by 1", x.isClear(0, 400, 500, 1, 300, 300), 0);
    }

    private static void clearThroughTravel() {
        WheelSwing x = new WheelSwing();
        due.same("clear at first", x.isClear(0, 500, 0, 100, 0, 0), 1);
        due.same("foot passes the point", x.isClear(0, 400, -350, 10, -50, 50), 1);
        due.same("upright nears it as it drops", x.isClear(0, 400, -50, 30, -50, 50), 0);
        due.same("y0 counts", x.isClear(0, 400, -50, 50, -50, 100), 0);
        due.same("from above it does not", x.isClear(0, 400, -50, 50, 0, 100), 1);
        due.same("y1 counts", x.isClear(0, 400, -50, 51, -10, 0), 0);
        due.same("all locked", x.isClear(0, 0, 500, 500, 401, 1000), 1);
        due.same("locked in part", x.isClear(0, 0, 400, 100, 400, 1000), 0);
    }
}
