/** Promises 8 to 12: what the wheels carry, and shims. */
public final class WheelsTest {
    private static final Due due = new Due("WheelsTest");

    public static void main(String[] args) {
        loads();
        cutTowardZero();
        bigLoads();
        shims();
        likeSets();
        fullBox();
        due.end();
    }

    private static void carry(WheelSwing x, int... want) {
        for (int w = 0; w < 4; w++) {
            due.same("carries(" + w + ")", x.carries(w), want[w]);
        }
    }

    private static void loads() {
        WheelSwing x = new WheelSwing();
        carry(x, 0, 0, 0, 0);
        due.same("weight", x.weight(1000, 400, 0), 1);
        carry(x, 300, 300, 200, 200);
        due.same("weight", x.weight(1000, 400, 100), 1);
        carry(x, 240, 360, 160, 240);
        due.same("push", x.push(300, 600), 1);
        carry(x, 60, 540, 40, 360);
        due.same("push", x.push(-300, 600), 1);
        carry(x, 420, 180, 280, 120);
        x.push(2000, 1000);
        carry(x, 240 - 2000, 360 + 2000, 160, 240);
        x.push(2000, 0);
        carry(x, 240, 360, 160 - 2000, 240 + 2000);
        x.weight(1000, 1000, -500);
        carry(x, 0, 0, 1000 - 2000, 2000);
        x.weight(1000, 0, 500);
        carry(x, 0, 1000, -2000, 2000);
        due.same("digest counts loads", x.digest() == new WheelSwing().digest() ? 1 : 0, 0);
    }

    private static void cutTowardZero() {
        WheelSwing x = new WheelSwing();
        x.weight(1001, 333, -7);
        carry(x, 668 - 329, 329, 333 - 164, 164);
        x.push(-3, 500);
        carry(x, 668 - 328, 328, 333 - 162, 162);
        x.push(3, 500);
        carry(x, 668 - 330, 330, 333 - 166, 166);
    }

    private static void bigLoads() {
        WheelSwing x = new WheelSwing();
        x.weight(100000, 1000, 500);
        x.push(-100000, 1000);
        carry(x, 100000, -100000, 0, 100000);
    }

    private static WheelSwing boxed(int... shims) {
        WheelSwing x = new WheelSwing();
        for (int i = 0; i < shims.length; i++) {
            due.same("shim(" + shims[i] + ")", x.shim(shims[i]), i);
        }
        return x;
    }

    private static void shims() {
        WheelSwing none = boxed();
        due.same("best of none", none.best(2000, 3), 0);
        WheelSwing x = boxed(10, 20, 40, 80);
        due.same("best(70, 3)", x.best(70, 3), 7);
        due.same("best(70, 2), one as near as two", x.best(70, 2), 8);
        due.same("best(69, 2)", x.best(69, 2), 6);
        due.same("best(70, 1)", x.best(70, 1), 8);
        due.same("best(150, 3)", x.best(150, 3), 14);
        due.same("best(2000, 3)", x.best(2000, 3), 14);
        due.same("best(2000, 0)", x.best(2000, 0), 0);
        due.same("best(4, 3)", x.best(4, 3), 0);
        due.same("best(6, 3)", x.best(6, 3), 1);
        due.same("count(0)", x.count(0), 4);
    }

    private static void likeSets() {
        due.same("fewer first: none", boxed(10).best(5, 3), 0);
        due.same("fewer first, though the greater number", boxed(10, 20, 30).best(30, 3), 4);
        due.same("below and above alike: fewer", boxed(20, 30, 10).best(40, 1), 2);
        due.same("below and above alike: the least", boxed(30, 50).best(40, 1), 1);
        due.same("above and below alike: the least", boxed(50, 30).best(40, 1), 1);
        due.same("twins: the least", boxed(30, 50, 20, 50).best(100, 3), 10);
        due.same("the very same", boxed(7, 7, 7).best(7, 3), 1);
        due.same("pairs of like sum", boxed(1, 4, 2, 3).best(5, 2), 3);
    }

    private static void fullBox() {
        WheelSwing x = boxed(500, 500, 500, 500, 500, 500, 500, 500, 1, 2);
        due.same("an eleventh", x.shim(1), -4);
        due.same("count", x.count(0), 10);
        due.same("best with the last ones", x.best(503, 3), 1 | 256 | 512);
        due.same("best(1500, 3)", x.best(1500, 3), 7);
        due.same("clear leaves shims", x.clear(), 0);
        due.same("count after clear", x.count(0), 10);
    }
}
