import java.lang.reflect.Method;
import java.util.Random;

/**
 * "All that follows is in doubles", "What tells a double tells its bits": the class's own root and bits, which no
 * call reaches at its hardest numbers, held against the library's by reflection.
 */
public final class DoublesTest {
    private static final Due due = new Due("DoublesTest");
    private static Method squareRoot;
    private static Method bits;

    public static void main(String[] args) throws Exception {
        Class<?> doubles = Class.forName("WheelSwing$Doubles");
        squareRoot = doubles.getDeclaredMethod("squareRoot", double.class);
        bits = doubles.getDeclaredMethod("bits", double.class);
        squareRoot.setAccessible(true);
        bits.setAccessible(true);
        wholeNumbers();
        powersOfTwo();
        rootsHardToRound();
        manySizes();
        due.end();
    }

    private static void tried(double x) throws Exception {
        due.tells("root of " + x, Double.doubleToLongBits((double) squareRoot.invoke(null, x)), Math.sqrt(x));
        told(x);
        told(-x);
    }

    private static void told(double x) throws Exception {
        if (x != 0.0) {
            due.tells("bits", (long) bits.invoke(null, x), x);
        }
    }

    private static void wholeNumbers() throws Exception {
        due.tells("bits of nothing", (long) bits.invoke(null, 0.0), 0.0);
        for (int x = 0; x <= 20000; x++) {
            tried(x);
            tried(x * (double) x);
            tried(x / 1000.0);
        }
    }

    /** On both sides of where the exponent changes: 2.0, 4.0, 1.0 and the like. */
    private static void powersOfTwo() throws Exception {
        double power = 1.0;
        for (int i = 0; i < 100; i++) {
            for (double at : new double[] {power, 1.0 / power}) {
                tried(at);
                tried(Math.nextUp(at));
                tried(Math.nextDown(at));
            }
            power = power * 2.0;
        }
    }

    /**
     * Numbers whose root lies all but halfway between two doubles: r r + r + t is a double's fraction, t being
     * small and even, for one odd and one even r of 53 bits, built up bit by bit.
     */
    private static void rootsHardToRound() throws Exception {
        int hard = 0;
        for (long t = -1000; t <= 1000; t += 2) {
            for (long first = 0; first <= 1; first++) {
                long r = first;
                for (int bit = 1; bit < 52; bit++) {
                    r += (r * r + r + t) & 1L << bit;
                }
                r += 1L << 52;
                long units = units(r, t);
                if (units < 1L << 53 || units % 2 == 0) {
                    hard++;
                    tried((double) units / (1L << 52));
                }
            }
        }
        due.holds("many are hard", hard > 1000);
    }

    /** r r + r + t over two to the 52nd; what is cut off is nothing. */
    private static long units(long r, long t) {
        long high = Math.multiplyHigh(r, r);
        long low = r * r;
        long sum = low + (r + t);
        high += Long.compareUnsigned(sum, low) < 0 ? 1 : 0;
        return high << 12 | sum >>> 52;
    }

    private static void manySizes() throws Exception {
        Random random = new Random(229);
        for (int i = 0; i < 300000; i++) {
            double x = 1.0 + random.nextDouble();
            tried(Math.scalb(x, random.nextInt(160) - 80));
        }
    }
}
