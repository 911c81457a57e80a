import java.util.Arrays;
import java.util.Random;

/** Runs of 512 calls, digest being the last, with numbers as told; each answer is held against the model's. */
public final class RandomRunsTest {
    private static final Due due = new Due("RandomRunsTest");

    public static void main(String[] args) {
        for (int run = 0; run < 1500; run++) {
            oneRun(run);
        }
        due.end();
    }

    private static void oneRun(int run) {
        Random random = new Random(run);
        WheelSwing x = new WheelSwing();
        Model model = new Model();
        boolean mild = run % 3 != 0;
        for (int n = 0; n < 511; n++) {
            Calls call = pick(random);
            int[] v = new int[call.numbers()];
            for (int i = 0; i < v.length; i++) {
                v[i] = number(random, call.least(i), call.most(i));
            }
            if (call == Calls.HANG) {
                likely(random, v, mild);
            }
            if (mild && (call == Calls.READING || call == Calls.POSE)) {
                int y = call == Calls.READING ? 0 : 1;
                v[y] = random.nextInt(301) - 150;
            }
            if (call == Calls.ISCLEAR && mild) {
                v[3] = random.nextInt(100);
            }
            due.same("run " + run + ", call " + n + ": " + call + Arrays.toString(v), call.ask(x, v), call.ask(model, v));
        }
        due.same("run " + run + ": digest", x.digest(), model.digest());
    }

    private static Calls pick(Random random) {
        int roll = random.nextInt(40);
        return roll < 10 ? Calls.POSE : roll < 14 ? Calls.HANG : Calls.ALL[random.nextInt(Calls.ALL.length)];
    }

    private static int number(Random random, int least, int most) {
        switch (random.nextInt(8)) {
            case 0: return least;
            case 1: return most;
            case 2: return Math.min(most, Math.max(least, 0));
            default: return least + random.nextInt(most - least + 1);
        }
    }

    /** Arms and uprights that mostly do reach one another, often on round numbers. */
    private static void likely(Random random, int[] v, boolean mild) {
        v[8] = random.nextBoolean() ? 1 : -1;
        if (!mild) {
            return;
        }
        int step = random.nextBoolean() ? 1 : 50;
        v[1] = (random.nextInt(401) - 200) / step * step;
        v[2] = (random.nextInt(401) + 100) / step * step;
        v[3] = (random.nextInt(401) - 200) / step * step;
        v[4] = (random.nextInt(201) - 100) / step * step;
        for (int i = 5; i < 8; i++) {
            v[i] = Math.max(50, (random.nextInt(401) + 200) / step * step);
        }
    }
}
