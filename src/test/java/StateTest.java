/** Promises 1, 18, 19, and the constants: a new object, counts, the digest number by number. */
public final class StateTest {
    private static final Due due = new Due("StateTest");

    public static void main(String[] args) {
        due.same("NONE", WheelSwing.NONE, -1);
        due.same("BAD", WheelSwing.BAD, -2);
        due.same("FULL", WheelSwing.FULL, -4);
        newObject();
        objectsApart();
        digestInOrder();
        due.end();
    }

    private static long digest(int[][] parts) {
        long h = 229;
        for (int[] part : parts) {
            for (int v : part) {
                h = 31 * h + v;
            }
        }
        return h;
    }

    private static void newObject() {
        WheelSwing x = new WheelSwing();
        int[] first = {0, 300, 0, 0, 300, 400, 300, 1, -100, 100, 0, 500, 500};
        due.same("digest at first", x.digest(), digest(new int[][] {{0, 0}, first, first, first, first, {0, 0, 0, 0}}));
        due.same("shims", x.count(0), 0);
        due.same("readings", x.count(1), 0);
        for (int h = 0; h < 4; h++) {
            due.tells("px at first", x.pose(h, 0, 0), 400.0);
            due.same("carries at first", x.carries(h), 0);
        }
    }

    private static void objectsApart() {
        WheelSwing x = new WheelSwing();
        WheelSwing y = new WheelSwing();
        x.hang(2, 1, 301, 2, 3, 301, 401, 301, -1);
        x.weight(10, 500, 0);
        x.shim(4);
        x.reading(1, 2);
        due.same("another object is as it was", y.digest(), new WheelSwing().digest());
        due.same("count(0)", x.count(0), 1);
        due.same("count(1)", x.count(1), 1);
    }

    private static void digestInOrder() {
        WheelSwing x = new WheelSwing();
        int[][] parts = new int[8][];
        parts[0] = new int[] {2, 3};
        for (int h = 0; h < 4; h++) {
            int n = 100 * h;
            parts[h + 1] = new int[] {n + 1, n + 2, n + 3, n + 4, n + 55, n + 66, n + 77, 1 - h % 2 * 2,
                n + 8, n + 9, n + 10, n + 11, n + 12};
            int[] p = parts[h + 1];
            x.hang(h, p[0], p[1], p[2], p[3], p[4], p[5], p[6], p[7]);
            x.wheel(h, p[8], p[9]);
            x.spring(h, p[10], p[11], p[12]);
        }
        x.weight(1000, 400, 100);
        x.push(300, 600);
        parts[5] = new int[] {60, 540, 40, 360};
        x.shim(8);
        x.shim(5);
        parts[6] = new int[] {8, 5};
        x.reading(7, -8);
        x.reading(-9, 10);
        x.reading(11, 12);
        parts[7] = new int[] {7, -8, -9, 10, 11, 12};
        due.same("digest in order", x.digest(), digest(parts));
        due.same("digest again", x.digest(), digest(parts));
    }
}
