/**
 * Exact estimates of a state of two numbers that moves by linear steps with noise and is seen through
 * linear observations with noise. The promises are those of DOC.md.
 *
 * No fraction is ever worked with inside: see {@link Belief}. Every row is made in the constructor and used
 * again, so that no call makes an object.
 */
public final class ExactEstimates {
    public static final int NONE = -2;
    public static final int BAD = -3;
    public static final int FLAT = -4;
    public static final int FULL = -5;

    private static final int LAST_TIME = 3;
    private static final int MOST_OBSERVATIONS = 6;
    private static final int MOST_BELIEFS = 1 + MOST_OBSERVATIONS + LAST_TIME;

    private static final int PREDICTED = 0;
    private static final int FILTERED = 1;
    private static final int SMOOTHED = 2;
    private static final int OF_OBSERVATION = 3;
    private static final int LAST_ENTRY = 4;
    private static final int INNOVATION = 0;
    private static final int SPREAD = 1;

    private static final int LARGEST_OF_ESTIMATE = 99;
    private static final int LARGEST_OF_STEP = 3;
    private static final int LARGEST_OF_LOOK = 9;
    private static final int LARGEST_BLUR = 99;
    private static final int LARGEST_READING = 999;
    private static final int LARGEST_WORD = 31;

    /** The initial belief, and behind it one for each observation and each advance, in their order. */
    private final Belief[] beliefs = new Belief[MOST_BELIEFS];
    /** For each time, where its predicted belief stands among the beliefs. */
    private final int[] predictedAt = new int[LAST_TIME + 1];
    private final Observation[] seen = new Observation[MOST_OBSERVATIONS];
    /** The passage at place t is the one from time t to time t + 1. */
    private final Passage[] passages = new Passage[LAST_TIME];
    private final Passage coming = new Passage();

    private int now;
    private int seenCount;

    private final Belief hindsight = new Belief();
    private final Belief spare = new Belief();
    private final Belief joined = new Belief();

    /** The number that was asked for last, as numerator and denominator. */
    private final Whole top = new Whole();
    private final Whole bottom = new Whole();
    private final Whole left = new Whole();
    private final Whole right = new Whole();

    public ExactEstimates() {
        for (int i = 0; i < MOST_BELIEFS; i++) {
            beliefs[i] = new Belief();
        }
        for (int i = 0; i < MOST_OBSERVATIONS; i++) {
            seen[i] = new Observation();
        }
        for (int i = 0; i < LAST_TIME; i++) {
            passages[i] = new Passage();
        }
        coming.setStep(1, 0, 0, 1);
        coming.setNoise(1, 0, 1);
        beliefs[0].setEstimate(0, 0, 1, 0, 1);
    }

    public int initial(int m0, int m1, int p00, int p01, int p11) {
        if (!within(m0, LARGEST_OF_ESTIMATE) || !within(m1, LARGEST_OF_ESTIMATE) || !fitsCovariance(p00, p01, p11)) {
            return BAD;
        }
        if (!isPositive(p00, p01, p11)) {
            return FLAT;
        }
        now = 0;
        seenCount = 0;
        beliefs[0].setEstimate(m0, m1, p00, p01, p11);
        return 0;
    }

    public boolean step(int f00, int f01, int f10, int f11) {
        if (!within(f00, LARGEST_OF_STEP) || !within(f01, LARGEST_OF_STEP)
                || !within(f10, LARGEST_OF_STEP) || !within(f11, LARGEST_OF_STEP)) {
            return false;
        }
        coming.setStep(f00, f01, f10, f11);
        return true;
    }

    public int noise(int q00, int q01, int q11) {
        if (!fitsCovariance(q00, q01, q11)) {
            return BAD;
        }
        if (!isPositive(q00, q01, q11)) {
            return FLAT;
        }
        coming.setNoise(q00, q01, q11);
        return 0;
    }

    public int observe(int h0, int h1, int r, int z) {
        if (!within(h0, LARGEST_OF_LOOK) || !within(h1, LARGEST_OF_LOOK)
                || r < 1 || r > LARGEST_BLUR || !within(z, LARGEST_READING)) {
            return BAD;
        }
        if (seenCount >= MOST_OBSERVATIONS) {
            return FULL;
        }
        int before = latest();
        Observation made = seen[seenCount];
        made.set(h0, h1, r, z);
        made.place(now, before);
        beliefs[before + 1].copy(beliefs[before]);
        beliefs[before + 1].learn(made);
        seenCount++;
        return seenCount - 1;
    }

    public int advance() {
        if (now >= LAST_TIME) {
            return FULL;
        }
        int before = latest();
        Passage passed = passages[now];
        passed.copy(coming);
        beliefs[before + 1].moveOn(beliefs[before], passed);
        beliefs[before + 1].addNoise(passed);
        now++;
        predictedAt[now] = before + 1;
        return now;
    }

    public int time() {
        return now;
    }

    public int observations() {
        return seenCount;
    }

    public int sign(int kind, int t, int e) {
        return find(kind, t, e) ? top.side() : NONE;
    }

    public int bits(int kind, int t, int e, boolean lower) {
        if (!find(kind, t, e)) {
            return NONE;
        }
        reduce();
        return lower ? bottom.length() : top.length();
    }

    public long word(int kind, int t, int e, boolean lower, int k) {
        if (!find(kind, t, e)) {
            return NONE;
        }
        if (k < 0 || k > LARGEST_WORD) {
            return BAD;
        }
        reduce();
        return lower ? bottom.limb(k) : top.limb(k);
    }

    public int compare(int kind, int t, int e, int p, int q) {
        if (!find(kind, t, e)) {
            return NONE;
        }
        if (q < 1) {
            return BAD;
        }
        left.setTimes(top, q);
        right.setTimes(bottom, p);
        left.addTimes(right, -1);
        return left.side();
    }

    private static boolean within(int x, int largest) {
        return x >= -largest && x <= largest;
    }

    private static boolean fitsCovariance(int p00, int p01, int p11) {
        return within(p00, LARGEST_OF_ESTIMATE) && within(p01, LARGEST_OF_ESTIMATE) && within(p11, LARGEST_OF_ESTIMATE);
    }

    private static boolean isPositive(int p00, int p01, int p11) {
        return p00 > 0 && p00 * p11 > p01 * p01;
    }

    /** Where the newest belief stands: each advance and each observation has added one. */
    private int latest() {
        return now + seenCount;
    }

    /** Puts a number into top and bottom, not yet in lowest terms; false when there is none. */
    private boolean find(int kind, int t, int e) {
        if (kind == OF_OBSERVATION) {
            return findOfObservation(t, e);
        }
        if (kind < PREDICTED || kind > SMOOTHED || t < 0 || t > now || e < 0 || e > LAST_ENTRY) {
            return false;
        }
        beliefOf(kind, t).tell(e, top, bottom);
        return true;
    }

    private boolean findOfObservation(int number, int e) {
        if (number < 0 || number >= seenCount || e < INNOVATION || e > SPREAD) {
            return false;
        }
        Observation made = seen[number];
        Belief before = beliefs[made.before];
        bottom.copy(before.det);
        if (e == INNOVATION) {
            top.setSum(before.det, made.z, before.c0, -made.h0, before.c1, -made.h1);
        } else {
            // To learn an observation multiplies det by just its spread.
            top.copy(beliefs[made.before + 1].det);
        }
        return true;
    }

    private Belief beliefOf(int kind, int t) {
        if (kind == PREDICTED) {
            return beliefs[predictedAt[t]];
        }
        Belief filtered = beliefs[t < now ? predictedAt[t + 1] - 1 : latest()];
        if (kind == FILTERED) {
            return filtered;
        }
        lookBackTo(t);
        joined.join(filtered, hindsight);
        return joined;
    }

    /** Makes hindsight what the observations after time t alone tell of the state at time t. */
    private void lookBackTo(int t) {
        hindsight.setBlank();
        for (int later = now; later > t; later--) {
            for (int i = 0; i < seenCount; i++) {
                if (seen[i].at == later) {
                    hindsight.learn(seen[i]);
                }
            }
            Passage passed = passages[later - 1];
            hindsight.addNoise(passed);
            spare.moveBack(hindsight, passed);
            hindsight.copy(spare);
        }
    }

    /** Brings top, without its sign, and bottom to lowest terms. */
    private void reduce() {
        int side = top.side();
        if (side == 0) {
            bottom.set(1);
            return;
        }
        if (side < 0) {
            top.scale(-1);
        }
        dropCommonTwos();
        Whole divisor = oddCommonDivisor();
        top.divideByOdd(divisor);
        bottom.divideByOdd(divisor);
    }

    private void dropCommonTwos() {
        // A round drops 32 twos or is the last that finds any.
        for (int round = 0; round <= Whole.LIMBS; round++) {
            int twos = Math.min(top.lowZeros(), bottom.lowZeros());
            top.shiftRight(twos);
            bottom.shiftRight(twos);
        }
    }

    /** The greatest odd number that divides both top and bottom, neither of which is 0. */
    private Whole oddCommonDivisor() {
        Whole larger = left;
        Whole smaller = right;
        larger.copy(top);
        larger.dropTwos();
        smaller.copy(bottom);
        smaller.dropTwos();
        // Each round takes at least one bit from one of the two.
        for (int round = 0; round < 2 * Whole.BITS; round++) {
            int order = larger.order(smaller);
            if (order == 0) {
                break;
            }
            if (order < 0) {
                Whole other = larger;
                larger = smaller;
                smaller = other;
            }
            larger.addTimes(smaller, -1);
            larger.dropTwos();
        }
        return smaller;
    }

    /** What an observation looked at, and where it was made. */
    private static final class Observation {
        int h0;
        int h1;
        int r;
        int z;
        int at;
        int before;

        void set(int newH0, int newH1, int newR, int newZ) {
            h0 = newH0;
            h1 = newH1;
            r = newR;
            z = newZ;
        }

        void place(int newAt, int newBefore) {
            at = newAt;
            before = newBefore;
        }
    }

    /** The step and the noise of an advance. */
    private static final class Passage {
        int f00;
        int f01;
        int f10;
        int f11;
        int q00;
        int q01;
        int q11;

        void setStep(int newF00, int newF01, int newF10, int newF11) {
            f00 = newF00;
            f01 = newF01;
            f10 = newF10;
            f11 = newF11;
        }

        void setNoise(int newQ00, int newQ01, int newQ11) {
            q00 = newQ00;
            q01 = newQ01;
            q11 = newQ11;
        }

        void copy(Passage other) {
            setStep(other.f00, other.f01, other.f10, other.f11);
            setNoise(other.q00, other.q01, other.q11);
        }

        int stepDeterminant() {
            return f00 * f11 - f01 * f10;
        }

        int noiseDeterminant() {
            return q00 * q11 - q01 * q01;
        }
    }

    /**
     * What is known of a state of two numbers, held in nine whole numbers.
     *
     * With L the inverse of the covariance (0 where nothing is known) and m the mean:
     * L = (l00, l01; l01, l11) / unit, the determinant of L is det / unit, L m = (v0, v1) / unit.
     * Where det is not 0, m = (c0, c1) / det, and the covariance is (l11, -l01; -l01, l00) / det.
     *
     * The reason for nine where five would do: all that happens to a belief is then a sum of these numbers
     * times small ints, nothing is ever divided, and no number comes to more than 105 bits. And what was seen
     * before a time and what was seen after it are beliefs of the same kind, that only have to be joined.
     */
    private static final class Belief {
        final Whole unit = new Whole();
        final Whole l00 = new Whole();
        final Whole l01 = new Whole();
        final Whole l11 = new Whole();
        final Whole det = new Whole();
        final Whole v0 = new Whole();
        final Whole v1 = new Whole();
        final Whole c0 = new Whole();
        final Whole c1 = new Whole();

        /** Nothing is known. */
        void setBlank() {
            unit.set(1);
            l00.set(0);
            l01.set(0);
            l11.set(0);
            det.set(0);
            v0.set(0);
            v1.set(0);
            c0.set(0);
            c1.set(0);
        }

        void setEstimate(int m0, int m1, int p00, int p01, int p11) {
            unit.set(p00 * p11 - p01 * p01);
            l00.set(p11);
            l01.set(-p01);
            l11.set(p00);
            det.set(1);
            v0.set(p11 * m0 - p01 * m1);
            v1.set(p00 * m1 - p01 * m0);
            c0.set(m0);
            c1.set(m1);
        }

        void copy(Belief other) {
            unit.copy(other.unit);
            l00.copy(other.l00);
            l01.copy(other.l01);
            l11.copy(other.l11);
            det.copy(other.det);
            v0.copy(other.v0);
            v1.copy(other.v1);
            c0.copy(other.c0);
            c1.copy(other.c1);
        }

        /** Adds what an observation tells; in this order each line still finds the old numbers that it needs. */
        void learn(Observation o) {
            int h0 = o.h0;
            int h1 = o.h1;
            int r = o.r;
            int z = o.z;
            c0.scale(r);
            c0.addSum(l11, z * h0, l01, -z * h1);
            c0.addSum(v0, h1 * h1, v1, -h0 * h1);
            c1.scale(r);
            c1.addSum(l00, z * h1, l01, -z * h0);
            c1.addSum(v1, h0 * h0, v0, -h0 * h1);
            det.scale(r);
            det.addSum(l00, h1 * h1, l11, h0 * h0);
            det.addTimes(l01, -2 * h0 * h1);
            v0.scale(r);
            v0.addTimes(unit, z * h0);
            v1.scale(r);
            v1.addTimes(unit, z * h1);
            l00.scale(r);
            l00.addTimes(unit, h0 * h0);
            l01.scale(r);
            l01.addTimes(unit, h0 * h1);
            l11.scale(r);
            l11.addTimes(unit, h1 * h1);
            unit.scale(r);
        }

        /** The covariance grows by the noise; unit comes first, since it needs the old l. */
        void addNoise(Passage p) {
            unit.addSum(l00, p.q00, l11, p.q11);
            unit.addSum(l01, 2 * p.q01, det, p.noiseDeterminant());
            l00.addTimes(det, p.q11);
            l01.addTimes(det, -p.q01);
            l11.addTimes(det, p.q00);
            v0.addSum(c0, p.q11, c1, -p.q01);
            v1.addSum(c1, p.q00, c0, -p.q01);
        }

        /** From what was known of a state to what is known of the step times that state. */
        void moveOn(Belief from, Passage p) {
            turn(from, p.f11, -p.f01, -p.f10, p.f00);
            moveScales(from, p.stepDeterminant(), 1);
        }

        /** From what was known of the step times a state to what is known of that state. */
        void moveBack(Belief from, Passage p) {
            turn(from, p.f00, p.f01, p.f10, p.f11);
            moveScales(from, 1, p.stepDeterminant());
        }

        /** With G of these four: l becomes G' l G, v becomes G' v, and c the adjugate of G times c. */
        private void turn(Belief from, int g00, int g01, int g10, int g11) {
            l00.setSum(from.l00, g00 * g00, from.l01, 2 * g00 * g10, from.l11, g10 * g10);
            l01.setSum(from.l00, g00 * g01, from.l01, g00 * g11 + g01 * g10, from.l11, g10 * g11);
            l11.setSum(from.l00, g01 * g01, from.l01, 2 * g01 * g11, from.l11, g11 * g11);
            v0.setTimes(from.v0, g00);
            v0.addTimes(from.v1, g10);
            v1.setTimes(from.v0, g01);
            v1.addTimes(from.v1, g11);
            c0.setTimes(from.c0, g11);
            c0.addTimes(from.c1, -g01);
            c1.setTimes(from.c1, g00);
            c1.addTimes(from.c0, -g10);
        }

        /** Scales instead of dividing by the step's determinant, which may be 0. */
        private void moveScales(Belief from, int ofUnit, int ofDet) {
            unit.setTimes(from.unit, ofUnit * ofUnit);
            v0.scale(ofUnit);
            v1.scale(ofUnit);
            det.setTimes(from.det, ofDet * ofDet);
            c0.scale(ofDet);
            c1.scale(ofDet);
        }

        /** What two beliefs that were come by apart tell together; unit and v are left, as none asks for them. */
        void join(Belief a, Belief b) {
            l00.setProducts(a.l00, b.unit, b.l00, a.unit);
            l01.setProducts(a.l01, b.unit, b.l01, a.unit);
            l11.setProducts(a.l11, b.unit, b.l11, a.unit);
            det.setProducts(a.l01, b.l01, a.l01, b.l01);
            det.scale(-1);
            det.addProducts(a.l00, b.l11, a.l11, b.l00);
            det.addProducts(a.det, b.unit, b.det, a.unit);
            c0.setProducts(a.l01, b.v1, b.l01, a.v1);
            c0.scale(-1);
            c0.addProducts(a.l11, b.v0, b.l11, a.v0);
            c0.addProducts(a.c0, b.unit, b.c0, a.unit);
            c1.setProducts(a.l01, b.v0, b.l01, a.v0);
            c1.scale(-1);
            c1.addProducts(a.l00, b.v1, b.l00, a.v1);
            c1.addProducts(a.c1, b.unit, b.c1, a.unit);
        }

        /** Tells m0, m1, p00, p01 or p11 as a fraction that need not be in lowest terms. */
        void tell(int entry, Whole numerator, Whole denominator) {
            denominator.copy(det);
            switch (entry) {
                case 0:
                    numerator.copy(c0);
                    break;
                case 1:
                    numerator.copy(c1);
                    break;
                case 2:
                    numerator.copy(l11);
                    break;
                case 3:
                    numerator.setTimes(l01, -1);
                    break;
                default:
                    numerator.copy(l00);
                    break;
            }
        }
    }

    /**
     * A whole number of a fixed room, in two's complement, so that sums and products need no look at signs.
     * Five limbs are enough: a belief's numbers have at most 105 bits, an innovation at most ten more, and
     * compare adds at most 32 to these.
     */
    private static final class Whole {
        static final int LIMBS = 5;
        static final int LIMB_BITS = 32;
        static final int BITS = LIMBS * LIMB_BITS;
        private static final long MASK = 0xFFFFFFFFL;
        private static final long HALF = 0x80000000L;

        /** Each from 0 to 2^32 - 1, the lowest first. */
        private final long[] limbs = new long[LIMBS];

        void set(int value) {
            long rest = value;
            for (int i = 0; i < LIMBS; i++) {
                limbs[i] = rest & MASK;
                rest >>= LIMB_BITS;
            }
        }

        void copy(Whole x) {
            for (int i = 0; i < LIMBS; i++) {
                limbs[i] = x.limbs[i];
            }
        }

        void scale(int factor) {
            setTimes(this, factor);
        }

        void setTimes(Whole x, int factor) {
            long carry = 0;
            for (int i = 0; i < LIMBS; i++) {
                long sum = x.limbs[i] * factor + carry;
                limbs[i] = sum & MASK;
                carry = sum >> LIMB_BITS;
            }
        }

        /** The sum of each limb just fits into a long, for any factor. */
        void addTimes(Whole x, int factor) {
            long carry = 0;
            for (int i = 0; i < LIMBS; i++) {
                long sum = limbs[i] + x.limbs[i] * factor + carry;
                limbs[i] = sum & MASK;
                carry = sum >> LIMB_BITS;
            }
        }

        void addSum(Whole x, int ofX, Whole y, int ofY) {
            addTimes(x, ofX);
            addTimes(y, ofY);
        }

        void setSum(Whole x, int ofX, Whole y, int ofY, Whole z, int ofZ) {
            setTimes(x, ofX);
            addTimes(y, ofY);
            addTimes(z, ofZ);
        }

        void setProducts(Whole x, Whole timesX, Whole y, Whole timesY) {
            set(0);
            addProducts(x, timesX, y, timesY);
        }

        void addProducts(Whole x, Whole timesX, Whole y, Whole timesY) {
            addProduct(x, timesX);
            addProduct(y, timesY);
        }

        private void addProduct(Whole x, Whole y) {
            for (int i = 0; i < LIMBS; i++) {
                long carry = 0;
                for (int j = 0; i + j < LIMBS; j++) {
                    // Fits into 64 bits without a sign, hence the shift that brings in zeros.
                    long sum = limbs[i + j] + x.limbs[i] * y.limbs[j] + carry;
                    limbs[i + j] = sum & MASK;
                    carry = sum >>> LIMB_BITS;
                }
            }
        }

        /** -1, 0 or 1, as it is less than, equal to, or greater than 0. */
        int side() {
            if (limbs[LIMBS - 1] >= HALF) {
                return -1;
            }
            for (int i = 0; i < LIMBS; i++) {
                if (limbs[i] != 0) {
                    return 1;
                }
            }
            return 0;
        }

        /** -1, 0 or 1, as it is less than, equal to, or greater than x; for numbers that are not less than 0. */
        int order(Whole x) {
            for (int i = LIMBS - 1; i >= 0; i--) {
                if (limbs[i] != x.limbs[i]) {
                    return limbs[i] < x.limbs[i] ? -1 : 1;
                }
            }
            return 0;
        }

        /** How many bits it has without zeros in front, for a number that is not less than 0. */
        int length() {
            int length = BITS;
            while (length > 0 && !hasBit(length - 1)) {
                length--;
            }
            return length;
        }

        private boolean hasBit(int i) {
            return (limbs[i / LIMB_BITS] >> (i % LIMB_BITS) & 1) != 0;
        }

        long limb(int i) {
            return i >= 0 && i < LIMBS ? limbs[i] : 0;
        }

        /** How many zeros end the lowest limb. */
        int lowZeros() {
            int zeros = 0;
            while (zeros < LIMB_BITS && (limbs[0] >> zeros & 1) == 0) {
                zeros++;
            }
            return zeros;
        }

        /** For 0 to 32 places, and a number that is not less than 0. */
        void shiftRight(int places) {
            for (int i = 0; i < LIMBS; i++) {
                long above = i + 1 < LIMBS ? limbs[i + 1] : 0;
                limbs[i] = limbs[i] >>> places | above << (LIMB_BITS - places) & MASK;
            }
        }

        /** Makes it odd, if it is greater than 0. */
        void dropTwos() {
            int zeros = lowZeros();
            for (int i = 0; zeros > 0 && i <= LIMBS; i++) {
                shiftRight(zeros);
                zeros = lowZeros();
            }
        }

        /** Divides by an odd number that leaves no rest: then the lowest limb alone settles each limb in turn. */
        void divideByOdd(Whole divisor) {
            long inverse = inverseOfLimb(divisor.limbs[0]);
            for (int i = 0; i < LIMBS; i++) {
                long quotient = limbs[i] * inverse & MASK;
                takeTimes(divisor, quotient, i);
                limbs[i] = quotient;
            }
        }

        /** Takes the divisor times the quotient, moved up by some limbs. */
        private void takeTimes(Whole divisor, long quotient, int up) {
            long carry = 0;
            for (int j = 0; up + j < LIMBS; j++) {
                long product = divisor.limbs[j] * quotient + carry;
                long rest = limbs[up + j] - (product & MASK);
                limbs[up + j] = rest & MASK;
                carry = (product >>> LIMB_BITS) + (rest < 0 ? 1 : 0);
            }
        }

        /** The number whose product with this odd one ends in 31 zero bits and a one. */
        private static long inverseOfLimb(long odd) {
            // An odd number is its own inverse for 3 bits; each round doubles the bits that are right.
            long inverse = odd;
            for (int bits = 3; bits < LIMB_BITS; bits *= 2) {
                inverse = inverse * (2 - odd * inverse) & MASK;
            }
            return inverse;
        }
    }
}
