import java.math.BigInteger;
import java.util.Random;

/** Runs of chosen calls, each answered by the program and by the document written down word for word. */
public final class AgainstReferenceTest {
    private static final int RUNS = 3000;
    private static final int SHORT_RUN = 60;

    private final Checks checks;
    private final Random random;
    private final Subject x = new Subject();
    private final Reference reference = new Reference();
    private final String run;
    /** 0: any numbers; 1: the largest that are taken; 2: small ones; 3: often wrong ones; 4: the edges alone. */
    private final int manner;

    private AgainstReferenceTest(Checks checks, int seed) {
        this.checks = checks;
        random = new Random(seed);
        manner = seed % 5;
        run = "run " + seed + ": ";
    }

    public static void main(String[] args) {
        Checks checks = new Checks();
        for (int seed = 0; seed < RUNS; seed++) {
            AgainstReferenceTest test = new AgainstReferenceTest(checks, seed);
            // Most runs stay short, so that there are many of them; some use all the calls of an object.
            test.makeCalls(seed % 40 < 4 ? Subject.MOST_CALLS : SHORT_RUN);
        }
        checks.end();
    }

    private void makeCalls(int calls) {
        for (int i = 0; i < calls; i++) {
            Call call = pickCall(i < SHORT_RUN / 2 ? 24 : 60);
            checks.due(run + call.text(), call.on(x), call.on(reference));
        }
    }

    private Call pickCall(int choices) {
        return switch (random.nextInt(choices)) {
            // Begins anew but seldom, so that most runs come to six observations and to time 3.
            case 0 -> random.nextInt(4) == 0 ? begin() : ask();
            case 1, 2, 3 -> Call.step(pick(-3, 3), pick(-3, 3), pick(-3, 3), pick(-3, 3));
            case 4, 5, 6 -> blur();
            case 7, 8, 9, 10, 11, 12, 13 -> Call.observe(pick(-9, 9), pick(-9, 9), pick(1, 99), pick(-999, 999));
            case 14, 15, 16 -> Call.advance();
            case 17 -> Call.time();
            case 18 -> Call.observations();
            default -> ask();
        };
    }

    private int pick(int low, int high) {
        if (manner == 4) {
            return random.nextBoolean() ? low : high;
        }
        if (manner == 1) {
            // Near the edges rather than on them: numbers with few common divisors grow the most.
            int near = random.nextInt(1 + (high - low) / 8);
            return random.nextBoolean() ? low + near : high - near;
        }
        if (manner == 2) {
            return Math.max(low, Math.min(high, random.nextInt(7) - 3));
        }
        if (manner == 3 && random.nextInt(12) == 0) {
            int[] wrong = {low - 1, high + 1, Integer.MIN_VALUE, Integer.MAX_VALUE};
            return wrong[random.nextInt(wrong.length)];
        }
        return low + random.nextInt(high - low + 1);
    }

    /** Three numbers that are a positive covariance more often than not. */
    private int[] covariance() {
        int[] p = {pick(1, 99), pick(-99, 99), pick(1, 99)};
        boolean flat = (long) p[0] * p[2] <= (long) p[1] * p[1];
        if (flat && random.nextInt(8) != 0) {
            int most = (int) Math.sqrt(Math.abs((double) p[0] * p[2] - 1));
            p[1] = random.nextInt(3) == 0 ? most : -most / 2;
        }
        return p;
    }

    private Call begin() {
        int[] p = covariance();
        return Call.initial(pick(-99, 99), pick(-99, 99), p[0], p[1], p[2]);
    }

    private Call blur() {
        int[] q = covariance();
        return Call.noise(q[0], q[1], q[2]);
    }

    private Call ask() {
        int kind = manner == 3 ? random.nextInt(6) - 1 : random.nextInt(4);
        int last = kind == 3 ? reference.observations() - 1 : reference.time();
        int t = manner == 3 ? random.nextInt(last + 4) - 1 : random.nextInt(Math.max(1, last + 1));
        int e = manner == 3 ? random.nextInt(8) - 1 : random.nextInt(kind == 3 ? 2 : 5);
        boolean lower = random.nextBoolean();
        return switch (random.nextInt(4)) {
            case 0 -> Call.sign(kind, t, e);
            case 1 -> Call.bits(kind, t, e, lower);
            case 2 -> Call.word(kind, t, e, lower, random.nextInt(5) == 0 ? pick(0, 31) : random.nextInt(4));
            default -> askOrder(kind, t, e);
        };
    }

    /** Compares with fractions next to the number, where a mistake would show first. */
    private Call askOrder(int kind, int t, int e) {
        int[] lowers = {1, 2, 7, 1 + random.nextInt(1000), Integer.MAX_VALUE, 0, -1, Integer.MIN_VALUE};
        int q = lowers[random.nextInt(manner == 3 ? lowers.length : 5)];
        int p = random.nextBoolean() ? Integer.MIN_VALUE : Integer.MAX_VALUE;
        Reference.Fraction number = reference.fraction(kind, t, e);
        if (number != null && random.nextInt(6) != 0) {
            if (number.d().bitLength() < 32 && random.nextBoolean()) {
                q = number.d().intValue();
            }
            BigInteger near = number.n().multiply(BigInteger.valueOf(q)).divide(number.d());
            if (near.bitLength() < 31) {
                p = near.intValue() + random.nextInt(3) - 1;
            }
        }
        return Call.compare(kind, t, e, p, q);
    }
}
