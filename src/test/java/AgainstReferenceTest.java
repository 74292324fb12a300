import java.math.BigInteger;
import java.util.Random;

/** Runs of chosen calls, each answered by the program and by the document written down word for word. */
public final class AgainstReferenceTest {
    private static final int RUNS = 3000;
    private static final int CALLS = 512;

    private final Checks checks;
    private final Random random;
    private final ExactEstimates x = new ExactEstimates();
    private final Reference reference = new Reference();
    private final String run;
    /** 0: any numbers; 1: the largest that are taken; 2: small ones; 3: often wrong ones; 4: the edges alone. */
    private final int manner;

    private AgainstReferenceTest(Checks checks, int seed) {
        this.checks = checks;
        random = new Random(seed);
        manner = seed % 5;
        run = "run " + seed + ": ";
    }

    public static void main(String[] args) {
        Checks checks = new Checks();
        for (int seed = 0; seed < RUNS; seed++) {
            AgainstReferenceTest test = new AgainstReferenceTest(checks, seed);
            // Most runs stay short, so that there are many of them; some use all the calls of an object.
            test.makeCalls(seed % 40 < 4 ? CALLS : 60);
        }
        checks.end();
    }

    private void makeCalls(int calls) {
        for (int i = 0; i < calls; i++) {
            switch (random.nextInt(i < 30 ? 24 : 60)) {
                case 0 -> {
                    // Seldom, so that most runs come to six observations and to time 3.
                    if (random.nextInt(4) == 0) {
                        begin();
                    }
                }
                case 1, 2, 3 -> setStep();
                case 4, 5, 6 -> setNoise();
                case 7, 8, 9, 10, 11, 12, 13 -> look();
                case 14, 15, 16 -> checks.due(run + "advance()", x.advance(), reference.advance());
                case 17 -> checks.due(run + "time()", x.time(), reference.time());
                case 18 -> checks.due(run + "observations()", x.observations(), reference.observations());
                default -> ask();
            }
        }
    }

    private int pick(int low, int high) {
        if (manner == 4) {
            return random.nextBoolean() ? low : high;
        }
        if (manner == 1) {
            // Near the edges rather than on them: numbers with few common divisors grow the most.
            int near = random.nextInt(1 + (high - low) / 8);
            return random.nextBoolean() ? low + near : high - near;
        }
        if (manner == 2) {
            return Math.max(low, Math.min(high, random.nextInt(7) - 3));
        }
        if (manner == 3 && random.nextInt(12) == 0) {
            int[] wrong = {low - 1, high + 1, Integer.MIN_VALUE, Integer.MAX_VALUE};
            return wrong[random.nextInt(wrong.length)];
        }
        return low + random.nextInt(high - low + 1);
    }

    /** Three numbers that are a positive covariance more often than not. */
    private int[] covariance() {
        int[] p = {pick(1, 99), pick(-99, 99), pick(1, 99)};
        boolean flat = (long) p[0] * p[2] <= (long) p[1] * p[1];
        if (flat && random.nextInt(8) != 0) {
            int most = (int) Math.sqrt(Math.abs((double) p[0] * p[2] - 1));
            p[1] = random.nextInt(3) == 0 ? most : -most / 2;
        }
        return p;
    }

    private void begin() {
        int[] p = covariance();
        int m0 = pick(-99, 99);
        int m1 = pick(-99, 99);
        checks.due(run + "initial(" + m0 + ", " + m1 + ", " + p[0] + ", " + p[1] + ", " + p[2] + ")",
                x.initial(m0, m1, p[0], p[1], p[2]), reference.initial(m0, m1, p[0], p[1], p[2]));
    }

    private void setStep() {
        int a = pick(-3, 3);
        int b = pick(-3, 3);
        int c = pick(-3, 3);
        int d = pick(-3, 3);
        boolean want = reference.step(a, b, c, d);
        checks.due(run + "step(" + a + ", " + b + ", " + c + ", " + d + ")", x.step(a, b, c, d) ? 1 : 0, want ? 1 : 0);
    }

    private void setNoise() {
        int[] q = covariance();
        checks.due(run + "noise(" + q[0] + ", " + q[1] + ", " + q[2] + ")",
                x.noise(q[0], q[1], q[2]), reference.noise(q[0], q[1], q[2]));
    }

    private void look() {
        int h0 = pick(-9, 9);
        int h1 = pick(-9, 9);
        int r = pick(1, 99);
        int z = pick(-999, 999);
        checks.due(run + "observe(" + h0 + ", " + h1 + ", " + r + ", " + z + ")",
                x.observe(h0, h1, r, z), reference.observe(h0, h1, r, z));
    }

    private void ask() {
        int kind = manner == 3 ? random.nextInt(6) - 1 : random.nextInt(4);
        int last = kind == 3 ? reference.observations() - 1 : reference.time();
        int t = manner == 3 ? random.nextInt(last + 4) - 1 : random.nextInt(Math.max(1, last + 1));
        int e = manner == 3 ? random.nextInt(8) - 1 : random.nextInt(kind == 3 ? 2 : 5);
        String number = "(" + kind + ", " + t + ", " + e;
        boolean lower = random.nextBoolean();
        switch (random.nextInt(4)) {
            case 0 -> checks.due(run + "sign" + number + ")", x.sign(kind, t, e), reference.sign(kind, t, e));
            case 1 -> checks.due(run + "bits" + number + ", " + lower + ")",
                    x.bits(kind, t, e, lower), reference.bits(kind, t, e, lower));
            case 2 -> {
                int k = random.nextInt(5) == 0 ? pick(0, 31) : random.nextInt(4);
                checks.due(run + "word" + number + ", " + lower + ", " + k + ")",
                        x.word(kind, t, e, lower, k), reference.word(kind, t, e, lower, k));
            }
            default -> askOrder(kind, t, e);
        }
    }

    /** Compares with fractions next to the number, where a mistake would show first. */
    private void askOrder(int kind, int t, int e) {
        int[] lowers = {1, 2, 7, 1 + random.nextInt(1000), Integer.MAX_VALUE, 0, -1, Integer.MIN_VALUE};
        int q = lowers[random.nextInt(manner == 3 ? lowers.length : 5)];
        int p = random.nextBoolean() ? Integer.MIN_VALUE : Integer.MAX_VALUE;
        Reference.Fraction number = reference.number(kind, t, e);
        if (number != null && random.nextInt(6) != 0) {
            if (number.d().bitLength() < 32 && random.nextBoolean()) {
                q = number.d().intValue();
            }
            BigInteger near = number.n().multiply(BigInteger.valueOf(q)).divide(number.d());
            if (near.bitLength() < 31) {
                p = near.intValue() + random.nextInt(3) - 1;
            }
        }
        checks.due(run + "compare(" + kind + ", " + t + ", " + e + ", " + p + ", " + q + ")",
                x.compare(kind, t, e, p, q), reference.compare(kind, t, e, p, q));
    }
}
