/** Every number of every call at and just beyond its bounds: what is refused answers BAD and changes nothing. */
public final class RefusalTest {
    private static final Due due = new Due("RefusalTest");

    public static void main(String[] args) {
        for (Calls call : Calls.ALL) {
            for (int n = 0; n < call.numbers(); n++) {
                int least = call.least(n);
                int most = call.most(n);
                for (int wrong : new int[] {least - 1, most + 1, Integer.MIN_VALUE, Integer.MAX_VALUE}) {
                    refused(call, with(call, n, wrong));
                }
                taken(call, with(call, n, least));
                taken(call, with(call, n, most));
            }
            refusedMoreThanOnce(call);
        }
        refused(Calls.HANG, new int[] {0, 0, 300, 0, 0, 300, 400, 300, 0});
        refused(Calls.LOCK, new int[] {0, 1, 0});
        refused(Calls.LOCK, new int[] {0, 1000, -1000});
        refused(Calls.ISCLEAR, new int[] {0, 0, 0, 0, 1, 0});
        fullComesAfterBad();
        due.end();
    }

    /** Numbers as told, but for one; two bounds of a span stay in order where the one is as told. */
    private static int[] with(Calls call, int number, int v) {
        int[] numbers = new int[call.numbers()];
        for (int i = 0; i < numbers.length; i++) {
            numbers[i] = call.least(i) + (call.most(i) - call.least(i)) / 2;
        }
        if (call == Calls.HANG) {
            numbers[8] = 1;
        }
        if (call == Calls.LOCK || call == Calls.ISCLEAR) {
            int y0 = numbers.length - 2;
            numbers[y0] = number == y0 + 1 && v == -1000 ? -1000 : 0;
            numbers[y0 + 1] = number == y0 && v == 1000 ? 1000 : 0;
        }
        numbers[number] = v;
        return numbers;
    }

    private static WheelSwing used() {
        WheelSwing x = new WheelSwing();
        x.weight(1000, 400, 20);
        x.push(100, 600);
        x.shim(7);
        x.reading(10, 20);
        return x;
    }

    private static Model usedModel() {
        Model x = new Model();
        x.weight(new int[] {1000, 400, 20});
        x.push(new int[] {100, 600});
        x.shim(7);
        x.reading(10, 20);
        return x;
    }

    private static void refused(Calls call, int[] numbers) {
        WheelSwing x = used();
        long before = x.digest();
        String told = call + java.util.Arrays.toString(numbers);
        due.same(told, call.ask(x, numbers), call.bad);
        due.same(told + ", then digest", x.digest(), before);
    }

    private static void taken(Calls call, int[] numbers) {
        WheelSwing x = used();
        Model model = usedModel();
        String told = call + java.util.Arrays.toString(numbers);
        long answer = call.ask(x, numbers);
        due.holds(told + " is taken", answer != call.bad);
        due.same(told, answer, call.ask(model, numbers));
        due.same(told + ", then digest", x.digest(), model.digest());
    }

    /** The first and the last number wrong at once, and all of them. */
    private static void refusedMoreThanOnce(Calls call) {
        if (call.numbers() == 0) {
            return;
        }
        int last = call.numbers() - 1;
        int[] both = with(call, last, call.most(last) + 1);
        both[0] = call.least(0) - 1;
        refused(call, both);
        int[] all = new int[call.numbers()];
        java.util.Arrays.fill(all, Integer.MIN_VALUE);
        refused(call, all);
        java.util.Arrays.fill(all, Integer.MAX_VALUE);
        refused(call, all);
    }

    private static void fullComesAfterBad() {
        WheelSwing x = new WheelSwing();
        for (int i = 0; i < 12; i++) {
            due.same("shim " + i, x.shim(i + 1), i < 10 ? i : -4);
            due.same("reading " + i, x.reading(i, i), i);
        }
        long before = x.digest();
        due.same("shim(0), full", x.shim(0), -2);
        due.same("shim(501), full", x.shim(501), -2);
        due.same("shim(500), full", x.shim(500), -4);
        due.same("reading(1001, 0), full", x.reading(1001, 0), -2);
        due.same("reading(0, -5001), full", x.reading(0, -5001), -2);
        due.same("reading(0, 0), full", x.reading(0, 0), -4);
        due.same("digest, full", x.digest(), before);
    }
}
