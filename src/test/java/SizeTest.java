import java.lang.reflect.Field;
import java.math.BigInteger;

/**
 * Works out how large the program's whole numbers can come to, by its own sums with every term at its largest
 * and no two terms taking anything from each other, for every order of six observations and three advances.
 */
public final class SizeTest {
    private static final int EVENTS = 9;
    private static final int UNIT = 0;
    private static final int L = 1;
    private static final int DET = 2;
    private static final int V = 3;
    private static final int C = 4;

    public static void main(String[] args) throws ReflectiveOperationException {
        BigInteger largest = BigInteger.ZERO;
        for (int advances = 0; advances < 1 << EVENTS; advances++) {
            if (Integer.bitCount(advances) == 3) {
                largest = largest.max(largestOf(advances));
            }
        }
        Checks checks = new Checks();
        checks.due("bits that a number can have", largest.bitLength(), 105);
        // The innovation adds at most 999 and 18 times such a number, compare multiplies by at most 2^31 and
        // takes the difference of two, and one bit is the sign.
        int needed = largest.multiply(BigInteger.valueOf(999 + 18)).shiftLeft(31 + 1).bitLength() + 1;
        checks.due("there is room for " + needed + " bits", room(needed) >= needed ? 1 : 0, 1);
        checks.end();
    }

    /** The bits that the program has for a number; it may also hold its numbers in some other way. */
    private static int room(int otherwise) throws ReflectiveOperationException {
        for (Class<?> inside : ExactEstimates.class.getDeclaredClasses()) {
            if (inside.getSimpleName().equals("Whole")) {
                Field room = inside.getDeclaredField("BITS");
                room.setAccessible(true);
                return room.getInt(null);
            }
        }
        return otherwise;
    }

    private static BigInteger largestOf(int advances) {
        BigInteger[][] ahead = new BigInteger[EVENTS + 1][];
        ahead[0] = of(9801, 99, 1, 2 * 99 * 99, 99);
        for (int i = 0; i < EVENTS; i++) {
            boolean isAdvance = (advances >> i & 1) == 1;
            ahead[i + 1] = isAdvance ? blurred(moved(ahead[i], 18, 1)) : taught(ahead[i]);
        }
        BigInteger[] back = of(1, 0, 0, 0, 0);
        BigInteger largest = BigInteger.ZERO;
        for (int i = EVENTS; i >= 0; i--) {
            largest = largest.max(most(ahead[i])).max(most(back)).max(most(joined(ahead[i], back)));
            if (i > 0) {
                boolean isAdvance = (advances >> (i - 1) & 1) == 1;
                back = isAdvance ? moved(blurred(back), 1, 18) : taught(back);
            }
        }
        return largest;
    }

    private static BigInteger[] of(long... xs) {
        BigInteger[] all = new BigInteger[xs.length];
        for (int i = 0; i < xs.length; i++) {
            all[i] = BigInteger.valueOf(xs[i]);
        }
        return all;
    }

    private static BigInteger most(BigInteger[] xs) {
        BigInteger most = xs[0];
        for (BigInteger x : xs) {
            most = most.max(x);
        }
        return most;
    }

    private static BigInteger sum(BigInteger[] x, long unit, long l, long det, long v, long c) {
        BigInteger[] factors = of(unit, l, det, v, c);
        BigInteger sum = BigInteger.ZERO;
        for (int i = 0; i < factors.length; i++) {
            sum = sum.add(x[i].multiply(factors[i]));
        }
        return sum;
    }

    private static BigInteger[] taught(BigInteger[] x) {
        return new BigInteger[] {sum(x, 99, 0, 0, 0, 0), sum(x, 81, 99, 0, 0, 0), sum(x, 0, 324, 99, 0, 0),
            sum(x, 999 * 9, 0, 0, 99, 0), sum(x, 0, 2 * 999 * 9, 0, 2 * 81, 99)};
    }

    private static BigInteger[] blurred(BigInteger[] x) {
        return new BigInteger[] {sum(x, 1, 4 * 99, 9801, 0, 0), sum(x, 0, 1, 99, 0, 0), x[DET],
            sum(x, 0, 0, 0, 1, 2 * 99), x[C]};
    }

    private static BigInteger[] moved(BigInteger[] x, long ofUnit, long ofDet) {
        return new BigInteger[] {sum(x, ofUnit * ofUnit, 0, 0, 0, 0), sum(x, 0, 36, 0, 0, 0),
            sum(x, 0, 0, ofDet * ofDet, 0, 0), sum(x, 0, 0, 0, 6 * ofUnit, 0), sum(x, 0, 0, 0, 0, 6 * ofDet)};
    }

    private static BigInteger[] joined(BigInteger[] x, BigInteger[] y) {
        BigInteger two = BigInteger.TWO;
        BigInteger l = x[L].multiply(y[UNIT]).add(y[L].multiply(x[UNIT]));
        BigInteger det = x[DET].multiply(y[UNIT]).add(y[DET].multiply(x[UNIT]))
                .add(two.multiply(two).multiply(x[L]).multiply(y[L]));
        BigInteger c = x[C].multiply(y[UNIT]).add(y[C].multiply(x[UNIT]))
                .add(two.multiply(x[L]).multiply(y[V])).add(two.multiply(y[L]).multiply(x[V]));
        return new BigInteger[] {l, det, c};
    }
}
