import java.math.BigInteger;
import java.util.ArrayList;
import java.util.List;

/** The edges that the document names in 'READINGS', of CLEAR and in promises 13 to 19: one method a sentence. */
public final class ReadingEdgesTest {
    private static final Due due = new Due("ReadingEdgesTest");

    public static void main(String[] args) {
        noReadingYet();
        readingAtItsBounds();
        readingBeyondItsBounds();
        lastReadingThatFits();
        badComesBeforeFull();
        clearTellsHowMany();
        offIsSummedInOrder();
        offOfOneReading();
        offIsNoneLockedAtOne();
        offIsNoneWithoutLeanAtOne();
        offBeyondTheHangings();
        foundAtItsBounds();
        foundMovesNothing();
        foundStaysWithinTheBounds();
        foundReachesTheBounds();
        foundAtACorner();
        foundIsTheFirstOfLikeOnes();
        foundPassesOverNone();
        foundIsNoneIfAllAre();
        clearByZOrMore();
        clearByNothing();
        clearOfTheEnds();
        clearAtTheEndsOfTheSpan();
        clearAtEachBetween();
        clearWhereLocked();
        isClearAtItsBounds();
        isClearBeyondItsBounds();
        countsAreTwo();
        digestWrapsAround();
        due.end();
    }

    private static double asDouble(long bits) {
        return Double.longBitsToDouble(bits);
    }

    /** P is 400, 300; the upright is plumb there, up to 400, 800. */
    private static WheelSwing plumb() {
        WheelSwing x = new WheelSwing();
        x.hang(0, -80, 940, 0, 0, 500, 500, 500, 1);
        return x;
    }

    /** LOCKED at 0, where P is on U, and beyond -50 .. 50. */
    private static WheelSwing lockedAtNothing() {
        WheelSwing x = new WheelSwing();
        x.hang(0, 50, 0, 0, 0, 50, 50, 50, 1);
        return x;
    }

    private static void finds(String told, WheelSwing x, int r, int moveX, int moveY) {
        due.same(told + ": found x", x.found(0, r, 0), moveX + 10);
        due.same(told + ": found y", x.found(0, r, 1), moveY + 10);
    }

    private static void findsNone(String told, WheelSwing x, int r) {
        for (int what = 0; what <= 2; what++) {
            due.same(told + ": found " + what, x.found(0, r, what), -1);
        }
    }

    /** Without a READING the sum is 0.0, even of a hanging that is LOCKED everywhere. */
    private static void noReadingYet() {
        WheelSwing x = new WheelSwing();
        x.hang(3, 1000, 1000, -1000, -1000, 50, 50, 50, 1);
        due.same("locked everywhere", x.lock(3, -1000, -1000), -1000);
        for (int h = 0; h < 4; h++) {
            due.same("off without readings", x.off(h), 0L);
            due.same("found without readings", x.found(h, 0, 2), 0L);
        }
        due.same("none", x.count(1), 0);
        due.same("none to clear", x.clear(), 0);
    }

    private static void readingAtItsBounds() {
        WheelSwing x = new WheelSwing();
        due.same("y -1000, v -5000", x.reading(-1000, -5000), 0);
        due.same("y 1000, v 5000", x.reading(1000, 5000), 1);
        due.same("count", x.count(1), 2);
        WheelSwing plumb = plumb();
        plumb.reading(300, 5000);
        due.tells("off by 5000", plumb.off(0), 25000000.0);
        plumb.reading(300, -5000);
        due.tells("off by 5000 twice", plumb.off(0), 50000000.0);
    }

    private static void readingBeyondItsBounds() {
        WheelSwing x = plumb();
        x.reading(300, 3);
        long before = x.digest();
        due.same("y too small", x.reading(-1001, 0), -2);
        due.same("y too large", x.reading(1001, 0), -2);
        due.same("v too small", x.reading(0, -5001), -2);
        due.same("v too large", x.reading(0, 5001), -2);
        due.same("refused, changing nothing", x.digest(), before);
        due.same("count", x.count(1), 1);
        due.tells("off as before", x.off(0), 9.0);
        due.same("the next one's number", x.reading(300, 0), 1);
    }

    /** "READINGS 0 .. 11": twelve of them; the thirteenth is FULL, changing nothing. */
    private static void lastReadingThatFits() {
        WheelSwing x = plumb();
        for (int i = 0; i < 11; i++) {
            due.same("reading " + i, x.reading(300, 1), i);
        }
        due.same("count of eleven", x.count(1), 11);
        due.same("the twelfth", x.reading(300, 7), 11);
        due.same("count of twelve", x.count(1), 12);
        due.tells("off by all twelve", x.off(0), 11.0 + 49.0);
        long before = x.digest();
        due.same("the thirteenth", x.reading(300, 9), -4);
        due.same("the thirteenth, elsewhere", x.reading(1000, 0), -4);
        due.same("refused, changing nothing", x.digest(), before);
        due.same("count", x.count(1), 12);
        due.tells("off as before", x.off(0), 60.0);
        due.same("shims have room of their own", x.shim(1), 0);
    }

    private static void badComesBeforeFull() {
        WheelSwing x = new WheelSwing();
        for (int i = 0; i < 12; i++) {
            x.reading(0, 0);
        }
        due.same("y too small and full", x.reading(-1001, 0), -2);
        due.same("y too large and full", x.reading(1001, 0), -2);
        due.same("v too small and full", x.reading(0, -5001), -2);
        due.same("v too large and full", x.reading(0, 5001), -2);
        due.same("as told, full", x.reading(-1000, 5000), -4);
    }

    private static void clearTellsHowMany() {
        WheelSwing x = plumb();
        x.shim(5);
        long before = x.digest();
        for (int many = 0; many <= 12; many++) {
            for (int i = 0; i < many; i++) {
                due.same("numbers begin at 0 again", x.reading(300, 7), i);
            }
            due.same("how many", x.clear(), many);
            due.same("none is left", x.count(1), 0);
            due.tells("none counts", x.off(0), 0.0);
            due.same("all else is as it was", x.digest(), before);
            due.same("none to clear again", x.clear(), 0);
        }
        due.same("shims stay", x.count(0), 1);
    }

    /** "the sum, from 0.0 on, in order": its bits are others than those of the same sum turned about. */
    private static void offIsSummedInOrder() {
        WheelSwing x = new WheelSwing();
        int[] heights = {80, -80, 20};
        int[] leans = {1000, 800, 200};
        double sum = 0.0;
        double turned = 0.0;
        for (int i = 0; i < heights.length; i++) {
            due.same("reading " + i, x.reading(heights[i], leans[i]), i);
            sum = sum + square(x, heights[i], leans[i]);
            due.tells("off by " + i, x.off(0), sum);
            int j = heights.length - 1 - i;
            turned = turned + square(x, heights[j], leans[j]);
        }
        due.holds("the order tells", sum != turned);
    }

    private static double square(WheelSwing x, int y, int v) {
        double far = 1000.0 * asDouble(x.pose(0, y, 4)) - v;
        return far * far;
    }

    private static void offOfOneReading() {
        WheelSwing x = plumb();
        x.reading(300, 0);
        due.same("just so", x.off(0), 0L);
        x.clear();
        x.reading(300, 1);
        due.tells("off by 1", x.off(0), 1.0);
        x.clear();
        x.reading(300, -1);
        due.tells("off by -1", x.off(0), 1.0);
    }

    /** "none, if it is LOCKED .. at one of them", be it the first, one between or the last. */
    private static void offIsNoneLockedAtOne() {
        for (int at = 0; at < 3; at++) {
            for (int lockedY : new int[] {401, 1000, -1000}) {
                WheelSwing x = new WheelSwing();
                x.hang(1, 0, 300, 0, 0, 400, 1000, 900, 1);
                for (int i = 0; i < 3; i++) {
                    due.same("reading " + i, x.reading(i == at ? lockedY : i, 0), i);
                }
                due.same("off, locked at " + lockedY, x.off(0), -1);
                findsNone("locked at " + lockedY, x, 0);
                x.clear();
                x.reading(0, 0);
                due.holds("off, cleared", x.off(0) != -1);
            }
        }
        WheelSwing x = new WheelSwing();
        x.hang(1, 0, 300, 0, 0, 300, 401, 300, 1);
        x.reading(401, 0);
        due.same("locked", x.off(0), -1);
        due.same("not locked by a longer arm", x.lock(1, 401, 401), -1);
        due.holds("the other one's off", x.off(1) != -1);
    }

    /** ".. (or without LEAN)": the upright lies level at 300, from 400 to -100. */
    private static void offIsNoneWithoutLeanAtOne() {
        for (int at = 0; at < 3; at++) {
            WheelSwing x = new WheelSwing();
            x.hang(0, -240, -180, 0, 0, 500, 500, 500, 1);
            for (int i = 0; i < 3; i++) {
                x.reading(i == at ? 300 : 310 + i, 0);
            }
            due.same("level, not locked", x.lock(0, 300, 312), -1);
            due.same("off without lean at " + at, x.off(0), -1);
            findsNone("without lean at " + at, x, 0);
            due.holds("found beside it", x.found(0, 1, 2) != -1);
        }
    }

    private static void offBeyondTheHangings() {
        WheelSwing x = new WheelSwing();
        due.same("no hanging -1", x.off(-1), -2);
        due.same("no hanging 4", x.off(4), -2);
        due.same("hanging 3", x.off(3), 0);
    }

    private static void foundAtItsBounds() {
        WheelSwing x = new WheelSwing();
        for (int r = 0; r <= 3; r++) {
            finds("r " + r, x, r, -r, -r);
        }
        due.same("r too small", x.found(0, -1, 0), -2);
        due.same("r too large", x.found(0, 4, 0), -2);
        due.same("what too small", x.found(0, 3, -1), -2);
        due.same("what too large", x.found(0, 3, 3), -2);
        due.same("no hanging -1", x.found(-1, 3, 2), -2);
        due.same("no hanging 4", x.found(4, 3, 2), -2);
        due.same("hanging 3", x.found(3, 3, 2), 0);
    }

    /** Found with r 0, U stays where it is; found at all, it is not moved. */
    private static void foundMovesNothing() {
        WheelSwing x = plumb();
        x.reading(300, 4);
        long before = x.digest();
        finds("r 0", x, 0, 0, 0);
        due.tells("off unmoved", x.found(0, 0, 2), 16.0);
        due.same("found elsewhere", x.found(0, 3, 0) == 10 && x.found(0, 3, 1) == 10 ? 1 : 0, 0);
        due.same("nothing is moved", x.digest(), before);
        due.tells("off as before", x.off(0), 16.0);
    }

    /**
     * ".. and still -1000 .. 1000": P lies 50 within U, 1 too near for the upright, so that only a U moved
     * outward frees it; at the bound there is none, 3 within it there is.
     */
    private static void foundStaysWithinTheBounds() {
        int[][] outward = {{1, 0}, {-1, 0}, {0, 1}, {0, -1}};
        for (int[] to : outward) {
            WheelSwing x = new WheelSwing();
            for (int in = 0; in <= 3; in += 3) {
                int ux = to[0] * (1000 - in);
                int uy = to[1] * (1000 - in);
                int px = to[0] * (950 - in);
                int py = to[1] * (950 - in);
                x.clear();
                x.hang(0, ux, uy, px - 50, py, 50, 50, 101, 1);
                x.reading(py, 0);
                String told = "U " + ux + ", " + uy;
                if (in == 0) {
                    findsNone(told, x, 3);
                } else {
                    due.holds(told, x.found(0, 3, 2) != -1);
                    due.holds(told + ": outward", (x.found(0, 3, 0) - 10) * to[0] + (x.found(0, 3, 1) - 10) * to[1] > 0);
                }
            }
        }
    }

    /**
     * A U 3 within the bounds is moved onto them, 13 or 7 as told; where the hidden one hangs the upright
     * stands plumb with its lower arm level, from 600, 600 to 600, 1000 or from -600, -600 to -600, -1000.
     */
    private static void foundReachesTheBounds() {
        for (int end = -1; end <= 1; end += 2) {
            WheelSwing hidden = new WheelSwing();
            WheelSwing x = new WheelSwing();
            int lx = 600 * end - 300;
            hidden.hang(0, 1000 * end, 1000 * end, lx, 600 * end, 400, 300, 400, -1);
            x.hang(0, 997 * end, 997 * end, lx, 600 * end, 400, 300, 400, -1);
            due.holds("plumb", Math.abs(asDouble(hidden.pose(0, 600 * end, 4))) < 1e-12);
            for (int i = -5; i <= 5; i++) {
                int y = 600 * end + 20 * i;
                x.reading(y, (int) Math.round(1000.0 * asDouble(hidden.pose(0, y, 4))));
            }
            due.same("eleven readings", x.count(1), 11);
            finds("onto the bounds", x, 3, 3 * end, 3 * end);
            due.holds("not that far", asDouble(x.found(0, 2, 2)) > asDouble(x.found(0, 3, 2)));
        }
    }

    /** Without READINGS all are as good: the first that is still -1000 .. 1000 is found. */
    private static void foundAtACorner() {
        WheelSwing x = new WheelSwing();
        for (int in = 0; in <= 4; in++) {
            int first = in < 3 ? -in : -3;
            x.hang(0, in - 1000, 0, 0, 0, 300, 400, 300, 1);
            finds("x " + in + " from the bound", x, 3, first, -3);
            x.hang(0, 0, in - 1000, 0, 0, 300, 400, 300, 1);
            finds("y " + in + " from the bound", x, 3, -3, first);
        }
        x.hang(0, -1000, -1000, 0, 0, 300, 400, 300, 1);
        finds("in the corner", x, 3, 0, 0);
        x.hang(0, 1000, 1000, 0, 0, 300, 400, 300, 1);
        finds("in the other corner", x, 3, -3, -3);
    }

    /**
     * "for each x, rising, each y, rising .. the first": Q is 220, 170 over P, and U is 185 from it both at
     * 45, 110 and at 44, 113.
     */
    private static void foundIsTheFirstOfLikeOnes() {
        WheelSwing x = new WheelSwing();
        x.hang(0, 45, 110, 0, 0, 185, 220, 170, 1);
        x.reading(0, 0);
        due.same("just so", x.off(0), 0L);
        finds("alone within 2", x, 2, 0, 0);
        finds("the lesser x first", x, 3, -1, 3);
        due.same("just so there too", x.found(0, 3, 2), 0L);
        x.hang(0, 44, 113, 0, 0, 185, 220, 170, 1);
        due.same("just so once moved", x.off(0), 0L);
        finds("then the first itself", x, 3, 0, 0);
    }

    /** Of U 50, 0 itself, LOCKED at 0, and of those beside it. */
    private static void foundPassesOverNone() {
        WheelSwing x = lockedAtNothing();
        x.reading(0, 0);
        due.same("off where it is", x.off(0), -1);
        findsNone("where it is", x, 0);
        finds("beside it", x, 1, -1, 0);
        due.holds("off beside it", asDouble(x.found(0, 1, 2)) < 101.0);
    }

    private static void foundIsNoneIfAllAre() {
        WheelSwing x = new WheelSwing();
        x.reading(0, 0);
        for (int r = 0; r <= 3; r++) {
            due.holds("found", x.found(0, r, 2) != -1);
        }
        x.reading(401, 0);
        for (int r = 0; r <= 3; r++) {
            findsNone("r " + r, x, r);
        }
    }

    /** "the distance .. is z or more". */
    private static void clearByZOrMore() {
        WheelSwing x = plumb();
        due.same("49 of 50", x.isClear(0, 450, 500, 49, 300, 300), 1);
        due.same("50 of 50", x.isClear(0, 450, 500, 50, 300, 300), 1);
        due.same("51 of 50", x.isClear(0, 450, 500, 51, 300, 300), 0);
        due.same("50 of 50, within", x.isClear(0, 350, 500, 50, 300, 300), 1);
        due.same("51 of 50, within", x.isClear(0, 350, 500, 51, 300, 300), 0);
        due.same("500 of 500", x.isClear(0, 900, 500, 500, 300, 300), 1);
        due.same("500 of 499", x.isClear(0, 899, 500, 500, 300, 300), 0);
    }

    private static void clearByNothing() {
        WheelSwing x = plumb();
        due.same("by 0 of the upright itself", x.isClear(0, 400, 500, 0, 300, 300), 1);
        due.same("by 1 of it", x.isClear(0, 400, 500, 1, 300, 300), 0);
        due.same("by 1, 1 from it", x.isClear(0, 401, 500, 1, 300, 300), 1);
    }

    /** "i .. brought to 0.0 .. 1.0": in line with the upright, but below and above it. */
    private static void clearOfTheEnds() {
        WheelSwing x = plumb();
        due.same("below, 100 of 100", x.isClear(0, 400, 200, 100, 300, 300), 1);
        due.same("below, 101 of 100", x.isClear(0, 400, 200, 101, 300, 300), 0);
        due.same("above, 100 of 100", x.isClear(0, 400, 900, 100, 300, 300), 1);
        due.same("above, 101 of 100", x.isClear(0, 400, 900, 101, 300, 300), 0);
        due.same("at the foot", x.isClear(0, 400, 300, 1, 300, 300), 0);
        due.same("1 below the foot", x.isClear(0, 400, 299, 1, 300, 300), 1);
        due.same("at the top", x.isClear(0, 400, 800, 1, 300, 300), 0);
        due.same("1 above the top", x.isClear(0, 400, 801, 1, 300, 300), 1);
        due.same("beside the foot", x.isClear(0, 410, 300, 10, 300, 300), 1);
        due.same("beside the top", x.isClear(0, 410, 800, 10, 300, 300), 1);
        due.same("below and beside, 50 of 50", x.isClear(0, 430, 260, 50, 300, 300), 1);
        due.same("below and beside, 51 of 50", x.isClear(0, 430, 260, 51, 300, 300), 0);
        due.same("above and beside, 50 of 50", x.isClear(0, 370, 840, 50, 300, 300), 1);
        due.same("above and beside, 51 of 50", x.isClear(0, 370, 840, 51, 300, 300), 0);
    }

    /** Rising, the foot comes away from a point below it, the top nears one above it. */
    private static void clearAtTheEndsOfTheSpan() {
        WheelSwing x = plumb();
        due.same("not clear at y0 alone", x.isClear(0, 400, 200, 101, 300, 310), 0);
        due.same("clear without it", x.isClear(0, 400, 200, 101, 301, 310), 1);
        due.same("not clear at y1 alone", x.isClear(0, 400, 900, 101, 290, 300), 0);
        due.same("clear without that", x.isClear(0, 400, 900, 101, 290, 299), 1);
    }

    private static void clearAtEachBetween() {
        WheelSwing x = plumb();
        due.same("not clear at 304 alone", x.isClear(0, 389, 298, 10, 290, 310), 0);
        due.same("clear below it", x.isClear(0, 389, 298, 10, 290, 303), 1);
        due.same("clear above it", x.isClear(0, 389, 298, 10, 305, 310), 1);
        due.same("not clear at it", x.isClear(0, 389, 298, 10, 304, 304), 0);
    }

    /** "at each y of these that is not LOCKED": what is LOCKED is passed over, and the next looked at. */
    private static void clearWhereLocked() {
        WheelSwing x = lockedAtNothing();
        due.same("locked alone", x.isClear(0, 50, 0, 500, 0, 0), 1);
        due.same("locked last", x.isClear(0, 50, 0, 2, -1, 0), 0);
        due.same("locked first", x.isClear(0, 50, 0, 2, 0, 1), 0);
        due.same("locked between, clear", x.isClear(0, 1000, 1000, 500, -1, 1), 1);
        due.same("locked but for one", x.isClear(0, 50, 50, 500, 50, 1000), 0);
        due.same("all locked above", x.isClear(0, 0, 50, 500, 51, 1000), 1);
        due.same("all locked below", x.isClear(0, 0, -50, 500, -1000, -51), 1);
        due.same("locked but for one below", x.isClear(0, 0, -50, 500, -1000, -50), 0);
    }

    private static void isClearAtItsBounds() {
        WheelSwing x = plumb();
        for (int far = -1000; far <= 1000; far += 2000) {
            due.same("ox " + far, x.isClear(0, far, 500, 500, 300, 300), 1);
            due.same("y " + far, x.isClear(0, 0, 0, 500, far, far), 1);
        }
        due.same("oy -1000", x.isClear(0, 400, -1000, 500, 300, 300), 1);
        due.same("oy 1000", x.isClear(0, 400, 1000, 200, 300, 300), 1);
        due.same("oy 1000, not clear", x.isClear(0, 400, 1000, 201, 300, 300), 0);
        due.same("the whole travel", x.isClear(0, 400, 500, 1, -1000, 1000), 0);
        due.same("the whole travel, by 0", x.isClear(0, 400, 500, 0, -1000, 1000), 1);
    }

    private static void isClearBeyondItsBounds() {
        WheelSwing x = plumb();
        due.same("no hanging -1", x.isClear(-1, 0, 0, 0, 0, 0), -2);
        due.same("no hanging 4", x.isClear(4, 0, 0, 0, 0, 0), -2);
        for (int far = -1001; far <= 1001; far += 2002) {
            due.same("ox " + far, x.isClear(0, far, 0, 0, 0, 0), -2);
            due.same("oy " + far, x.isClear(0, 0, far, 0, 0, 0), -2);
            due.same("y0 " + far, x.isClear(0, 0, 0, 0, far, 1000), -2);
            due.same("y1 " + far, x.isClear(0, 0, 0, 0, -1000, far), -2);
        }
        due.same("z too small", x.isClear(0, 0, 0, -1, 0, 0), -2);
        due.same("z too large", x.isClear(0, 0, 0, 501, 0, 0), -2);
        due.same("y0 at y1", x.isClear(0, 0, 0, 0, 7, 7), 1);
        due.same("y0 above y1", x.isClear(0, 0, 0, 0, 8, 7), -2);
        due.same("y0 above y1, all locked", x.isClear(0, 0, 0, 0, 1000, 999), -2);
    }

    private static void countsAreTwo() {
        WheelSwing x = new WheelSwing();
        x.shim(1);
        x.reading(0, 0);
        x.reading(0, 0);
        due.same("shims", x.count(0), 1);
        due.same("readings", x.count(1), 2);
        due.same("no count -1", x.count(-1), -2);
        due.same("no count 2", x.count(2), -2);
    }

    /** "h = 31 h + v": worked in numbers of any length, then cut to the long that it wraps around to. */
    private static void digestWrapsAround() {
        WheelSwing x = new WheelSwing();
        due.same("of a new object", x.digest(), cut(numbers(0, 0)));
        for (int i = 0; i < 12; i++) {
            due.same("reading " + i, x.reading(1000, i % 2 == 0 ? -5000 : 5000), i);
            due.same("shim", x.shim(500), i < 10 ? i : -4);
            due.same("digest at " + i, x.digest(), cut(numbers(i < 10 ? i + 1 : 10, i + 1)));
        }
        due.holds("far beyond a long", whole(numbers(10, 12)).bitLength() > 400);
    }

    private static List<Integer> numbers(int shims, int readings) {
        List<Integer> all = new ArrayList<>(List.of(shims, readings));
        for (int h = 0; h < 4; h++) {
            all.addAll(List.of(0, 300, 0, 0, 300, 400, 300, 1));
            all.addAll(List.of(-100, 100, 0, 500, 500));
        }
        all.addAll(List.of(0, 0, 0, 0));
        for (int i = 0; i < shims; i++) {
            all.add(500);
        }
        for (int i = 0; i < readings; i++) {
            all.add(1000);
            all.add(i % 2 == 0 ? -5000 : 5000);
        }
        return all;
    }

    private static BigInteger whole(List<Integer> numbers) {
        BigInteger h = BigInteger.valueOf(229);
        for (int v : numbers) {
            h = h.multiply(BigInteger.valueOf(31)).add(BigInteger.valueOf(v));
        }
        return h;
    }

    private static long cut(List<Integer> numbers) {
        return whole(numbers).longValue();
    }
}
