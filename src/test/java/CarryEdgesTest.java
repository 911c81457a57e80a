/** The edges that the document names in 'FOUR WHEELS', of SHIMS and in promises 8 to 12: one method a sentence. */
public final class CarryEdgesTest {
    private static final Due due = new Due("CarryEdgesTest");

    public static void main(String[] args) {
        allNothingAtFirst();
        weightAtItsBounds();
        weightBeyondItsBounds();
        pushAtItsBounds();
        pushBeyondItsBounds();
        rearIsCut();
        rightIsCut();
        partOfPushIsCutTowardZero();
        lessThanNothing();
        wheelsAreFour();
        carriesAnswersThatLookRefused();
        noShimYet();
        shimAtItsBounds();
        shimBeyondItsBounds();
        lastShimThatFits();
        badComesBeforeFull();
        bestAtItsBounds();
        bestBeyondItsBounds();
        bestOfAtMost();
        bestIsTheNearest();
        ofLikeOnesTheFewer();
        thenTheLeastAsANumber();
        due.end();
    }

    private static void carry(String told, WheelSwing x, int... want) {
        for (int w = 0; w < 4; w++) {
            due.same(told + ": carries(" + w + ")", x.carries(w), want[w]);
        }
    }

    private static WheelSwing loaded(int g, int place, int right, int t, int share) {
        WheelSwing x = new WheelSwing();
        due.same("weight(" + g + ", " + place + ", " + right + ")", x.weight(g, place, right), 1);
        due.same("push(" + t + ", " + share + ")", x.push(t, share), 1);
        return x;
    }

    private static WheelSwing boxed(int... shims) {
        WheelSwing x = new WheelSwing();
        for (int i = 0; i < shims.length; i++) {
            due.same("shim(" + shims[i] + ")", x.shim(shims[i]), i);
        }
        return x;
    }

    /** "all of these 0 at first": place, right and the share too, seen once G or T is told alone. */
    private static void allNothingAtFirst() {
        carry("new", new WheelSwing(), 0, 0, 0, 0);
        WheelSwing pushed = new WheelSwing();
        pushed.push(100, 300);
        carry("no weight yet", pushed, -30, 30, -70, 70);
        WheelSwing weighed = new WheelSwing();
        weighed.weight(100, 300, 100);
        carry("no push yet", weighed, 70 - 42, 42, 30 - 18, 18);
    }

    private static void weightAtItsBounds() {
        carry("G 0", loaded(0, 1000, 500, 0, 0), 0, 0, 0, 0);
        carry("G 100000, in front", loaded(100000, 0, 0, 0, 0), 50000, 50000, 0, 0);
        carry("place 1000", loaded(100000, 1000, 0, 0, 0), 0, 0, 50000, 50000);
        carry("right -500", loaded(100000, 500, -500, 0, 0), 50000, 0, 50000, 0);
        carry("right 500", loaded(100000, 500, 500, 0, 0), 0, 50000, 0, 50000);
        carry("all at the most", loaded(100000, 1000, 500, 0, 0), 0, 0, 0, 100000);
        carry("right -499", loaded(1000, 0, -499, 0, 0), 999, 1, 0, 0);
        carry("place 1, place 999", loaded(1000, 1, 500, 0, 0), 0, 999, 0, 1);
        carry("place 999", loaded(1000, 999, 500, 0, 0), 0, 1, 0, 999);
    }

    private static void weightBeyondItsBounds() {
        WheelSwing x = loaded(1000, 400, 100, 300, 600);
        due.same("G too small", x.weight(-1, 0, 0), -2);
        due.same("G too large", x.weight(100001, 0, 0), -2);
        due.same("place too small", x.weight(1, -1, 0), -2);
        due.same("place too large", x.weight(1, 1001, 0), -2);
        due.same("right too small", x.weight(1, 0, -501), -2);
        due.same("right too large", x.weight(1, 0, 501), -2);
        carry("refused, changing nothing", x, 60, 540, 40, 360);
        x.push(0, 0);
        carry("nor the place, nor the right", x, 240, 360, 160, 240);
    }

    private static void pushAtItsBounds() {
        carry("T 100000, front", loaded(0, 0, 0, 100000, 1000), -100000, 100000, 0, 0);
        carry("T 100000, rear", loaded(0, 0, 0, 100000, 0), 0, 0, -100000, 100000);
        carry("T -100000, front", loaded(0, 0, 0, -100000, 1000), 100000, -100000, 0, 0);
        carry("T -100000, rear", loaded(0, 0, 0, -100000, 0), 0, 0, 100000, -100000);
        carry("T 0", loaded(10, 0, 0, 0, 1000), 5, 5, 0, 0);
        carry("share 1", loaded(0, 0, 0, 100000, 1), -100, 100, -99900, 99900);
        carry("share 999", loaded(0, 0, 0, 100000, 999), -99900, 99900, -100, 100);
        carry("all at the most", loaded(100000, 0, 500, 100000, 1000), -100000, 200000, 0, 0);
    }

    private static void pushBeyondItsBounds() {
        WheelSwing x = loaded(1000, 400, 100, 300, 600);
        due.same("T too small", x.push(-100001, 0), -2);
        due.same("T too large", x.push(100001, 0), -2);
        due.same("share too small", x.push(1, -1), -2);
        due.same("share too large", x.push(1, 1001), -2);
        carry("refused, changing nothing", x, 60, 540, 40, 360);
    }

    /** "REAR = G place / 1000 .. cut toward 0", FRONT being what is left. */
    private static void rearIsCut() {
        carry("999 thousandths", loaded(1, 999, 500, 0, 0), 0, 1, 0, 0);
        carry("1000 thousandths", loaded(1, 1000, 500, 0, 0), 0, 0, 0, 1);
        carry("1998 thousandths", loaded(2, 999, 500, 0, 0), 0, 1, 0, 1);
    }

    /** "RIGHT = A (500 + right) / 1000 .. cut toward 0", LEFT being what is left. */
    private static void rightIsCut() {
        carry("999 thousandths", loaded(1, 0, 499, 0, 0), 1, 0, 0, 0);
        carry("1000 thousandths", loaded(1, 0, 500, 0, 0), 0, 1, 0, 0);
        carry("a half", loaded(1, 1000, 0, 0, 0), 0, 0, 1, 0);
        carry("a half and its part of T", loaded(1, 1000, 0, -1, 0), 0, 0, 2, -1);
    }

    /** "FRONT: T share / 1000; REAR: T less that", cut toward 0 below 0 as above it. */
    private static void partOfPushIsCutTowardZero() {
        carry("999 thousandths", loaded(0, 0, 0, 1, 999), 0, 0, -1, 1);
        carry("-999 thousandths", loaded(0, 0, 0, -1, 999), 0, 0, 1, -1);
        carry("-1 thousandth", loaded(0, 0, 0, -1, 1), 0, 0, 1, -1);
        carry("-1000 thousandths", loaded(0, 0, 0, -1, 1000), 1, -1, 0, 0);
        carry("-1998 thousandths", loaded(0, 0, 0, -2, 999), 1, -1, 1, -1);
    }

    private static void lessThanNothing() {
        carry("left less than nothing", loaded(100, 500, 0, 400, 500), -175, 225, -175, 225);
        carry("right less than nothing", loaded(100, 500, 0, -400, 500), 225, -175, 225, -175);
    }

    private static void wheelsAreFour() {
        WheelSwing x = loaded(1000, 400, 100, 300, 600);
        carry("0 to 3", x, 60, 540, 40, 360);
        due.same("no wheel -1", x.carries(-1), -2000000);
        due.same("no wheel 4", x.carries(4), -2000000);
    }

    /** A wheel that carries -1, -2 or -4 is not refused: that is told by -2000000 alone. */
    private static void carriesAnswersThatLookRefused() {
        for (int t : new int[] {1, 2, 4, 2000}) {
            due.same("carries less than nothing", loaded(0, 0, 0, t, 1000).carries(0), -t);
        }
    }

    private static void noShimYet() {
        WheelSwing x = new WheelSwing();
        due.same("none", x.count(0), 0);
        for (int j = 0; j <= 3; j++) {
            due.same("best of none for 0", x.best(0, j), 0);
            due.same("best of none for 2000", x.best(2000, j), 0);
        }
    }

    private static void shimAtItsBounds() {
        WheelSwing x = boxed(1, 500);
        due.same("best(1, 1)", x.best(1, 1), 1);
        due.same("best(500, 1)", x.best(500, 1), 2);
        due.same("best(501, 2)", x.best(501, 2), 3);
    }

    private static void shimBeyondItsBounds() {
        WheelSwing x = boxed(7);
        long before = x.digest();
        due.same("too small", x.shim(0), -2);
        due.same("less than nothing", x.shim(-1), -2);
        due.same("too large", x.shim(501), -2);
        due.same("refused, changing nothing", x.digest(), before);
        due.same("count", x.count(0), 1);
        due.same("the next one's number", x.shim(9), 1);
    }

    /** "SHIMS 0 .. 9, as they come": ten of them; the eleventh is FULL, changing nothing. */
    private static void lastShimThatFits() {
        WheelSwing x = boxed(101, 102, 103, 104, 105, 106, 107, 108, 109);
        due.same("count of nine", x.count(0), 9);
        due.same("the tenth", x.shim(200), 9);
        due.same("count of ten", x.count(0), 10);
        long before = x.digest();
        due.same("the eleventh", x.shim(300), -4);
        due.same("the eleventh again", x.shim(1), -4);
        due.same("refused, changing nothing", x.digest(), before);
        due.same("count", x.count(0), 10);
        due.same("the tenth as a bit", x.best(200, 1), 1 << 9);
        due.same("the eleventh is not there", x.best(300, 1), 1 << 9);
        due.same("readings have room of their own", x.reading(0, 0), 0);
    }

    private static void badComesBeforeFull() {
        WheelSwing x = boxed(1, 2, 3, 4, 5, 6, 7, 8, 9, 10);
        due.same("too small and full", x.shim(0), -2);
        due.same("too large and full", x.shim(501), -2);
        due.same("the least that is told, full", x.shim(1), -4);
        due.same("the most that is told, full", x.shim(500), -4);
    }

    private static void bestAtItsBounds() {
        WheelSwing x = boxed(500, 500, 500, 500);
        due.same("best(0, 0)", x.best(0, 0), 0);
        due.same("best(0, 3)", x.best(0, 3), 0);
        due.same("best(2000, 0)", x.best(2000, 0), 0);
        due.same("best(2000, 3), though four would do", x.best(2000, 3), 7);
    }

    private static void bestBeyondItsBounds() {
        WheelSwing x = boxed(500);
        due.same("v too small", x.best(-1, 3), -2);
        due.same("v too large", x.best(2001, 3), -2);
        due.same("j too small", x.best(0, -1), -2);
        due.same("j too large", x.best(0, 4), -2);
    }

    private static void bestOfAtMost() {
        WheelSwing x = boxed(100, 200, 400);
        due.same("of at most none", x.best(700, 0), 0);
        due.same("of at most one", x.best(700, 1), 4);
        due.same("of at most two", x.best(700, 2), 6);
        due.same("of at most three", x.best(700, 3), 7);
        due.same("of fewer than j, where they are nearer", x.best(400, 3), 4);
        due.same("of more than there are", boxed(100).best(700, 3), 1);
    }

    private static void bestIsTheNearest() {
        WheelSwing x = boxed(10, 21);
        due.same("nearer to none", x.best(4, 3), 0);
        due.same("nearer to the first, from below", x.best(6, 3), 1);
        due.same("nearer to the first, from above", x.best(15, 3), 1);
        due.same("nearer to the second, from below", x.best(16, 3), 2);
        due.same("nearer to the second, from above", x.best(25, 1), 2);
        due.same("nearer to both, from below", x.best(27, 3), 3);
        due.same("both, from above", x.best(2000, 3), 3);
    }

    private static void ofLikeOnesTheFewer() {
        due.same("none like one", boxed(10).best(5, 3), 0);
        due.same("one like two of the same sum", boxed(10, 20, 30).best(30, 3), 4);
        due.same("one like two, above and below", boxed(10, 20, 40).best(35, 2), 4);
        due.same("two like three", boxed(10, 20, 30, 60).best(60, 3), 8);
        due.same("two like three of the same sum", boxed(10, 20, 30, 25, 35).best(60, 3), 24);
    }

    private static void thenTheLeastAsANumber() {
        due.same("twins", boxed(7, 7).best(7, 3), 1);
        due.same("below and above", boxed(30, 50).best(40, 1), 1);
        due.same("above and below", boxed(50, 30).best(40, 1), 1);
        due.same("pairs", boxed(1, 4, 2, 3).best(5, 2), 3);
        due.same("pairs, the greater bit alone telling", boxed(2, 3, 1, 4).best(5, 2), 3);
        due.same("threes of ten alike", boxed(5, 5, 5, 5, 5, 5, 5, 5, 5, 5).best(15, 3), 7);
    }
}
