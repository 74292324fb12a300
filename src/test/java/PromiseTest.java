import java.math.BigInteger;

/** Each promise with ordinary inputs, the edges that the document names, and wrong inputs. */
public final class PromiseTest {
    private static final int[] FAR = {Integer.MIN_VALUE, -1000000, 1000000, Integer.MAX_VALUE};
    private static final Checks CHECKS = new Checks();

    public static void main(String[] args) {
        aNewObject();
        initial();
        initialRefused();
        step();
        noise();
        observe();
        observeRefused();
        advance();
        timeAndObservations();
        sign();
        bits();
        word();
        lowestTerms();
        compare();
        noSuchNumber();
        largeNumbers();
        CHECKS.end();
    }

    private static void due(String call, long got, long want) {
        CHECKS.due(call, got, want);
    }

    /** A number as its face tells it, such as -4/3. */
    private static String told(ExactEstimates x, int kind, int t, int e) {
        String sign = x.sign(kind, t, e) < 0 ? "-" : "";
        return sign + part(x, kind, t, e, false) + "/" + part(x, kind, t, e, true);
    }

    private static BigInteger part(ExactEstimates x, int kind, int t, int e, boolean lower) {
        BigInteger part = BigInteger.ZERO;
        for (int k = 3; k >= 0; k--) {
            part = part.shiftLeft(32).add(BigInteger.valueOf(x.word(kind, t, e, lower, k)));
        }
        return part;
    }

    private static void dueEstimate(String what, ExactEstimates x, int kind, int t, String want) {
        StringBuilder got = new StringBuilder(told(x, kind, t, 0));
        for (int e = 1; e <= 4; e++) {
            got.append(' ').append(told(x, kind, t, e));
        }
        CHECKS.due(what + ": estimate " + kind + " of time " + t, got.toString(), want);
    }

    private static void dueObservation(String what, ExactEstimates x, int number, String want) {
        CHECKS.due(what + ": observation " + number, told(x, 3, number, 0) + " " + told(x, 3, number, 1), want);
    }

    /** The run that the document's formulas were worked out for by hand. */
    private static ExactEstimates example() {
        ExactEstimates x = new ExactEstimates();
        due("initial(1, -2, 4, 1, 3)", x.initial(1, -2, 4, 1, 3), 0);
        due("observe(1, 0, 2, 5)", x.observe(1, 0, 2, 5), 0);
        due("step(1, 1, 0, 1)", x.step(1, 1, 0, 1) ? 1 : 0, 1);
        due("noise(2, 1, 1)", x.noise(2, 1, 1), 0);
        due("advance()", x.advance(), 1);
        due("observe(0, 1, 1, 7)", x.observe(0, 1, 1, 7), 1);
        return x;
    }

    private static void dueExample(String what, ExactEstimates x) {
        due(what + ": time()", x.time(), 1);
        due(what + ": observations()", x.observations(), 2);
        dueEstimate(what, x, 0, 0, "1/1 -2/1 4/1 1/1 3/1");
        dueEstimate(what, x, 1, 0, "11/3 -4/3 4/3 1/3 17/6");
        dueEstimate(what, x, 2, 0, "123/29 103/29 38/29 4/29 34/29");
        dueEstimate(what, x, 0, 1, "7/3 -4/3 41/6 25/6 23/6");
        dueEstimate(what, x, 1, 1, "276/29 153/29 94/29 25/29 23/29");
        dueEstimate(what, x, 2, 1, "276/29 153/29 94/29 25/29 23/29");
        dueObservation(what, x, 0, "4/1 6/1");
        dueObservation(what, x, 1, "25/3 29/6");
    }

    private static void aNewObject() {
        ExactEstimates x = new ExactEstimates();
        due("new: time()", x.time(), 0);
        due("new: observations()", x.observations(), 0);
        for (int kind = 0; kind <= 2; kind++) {
            dueEstimate("new", x, kind, 0, "0/1 0/1 1/1 0/1 1/1");
            due("new: sign(" + kind + ", 1, 0)", x.sign(kind, 1, 0), -2);
        }
        due("new: sign(3, 0, 0)", x.sign(3, 0, 0), -2);
        x.observe(1, 0, 1, 2);
        x.observe(0, 1, 1, 4);
        x.advance();
        dueEstimate("the first step and noise", x, 0, 1, "1/1 2/1 3/2 0/1 3/2");

        ExactEstimates other = example();
        ExactEstimates untouched = new ExactEstimates();
        dueEstimate("beside another", untouched, 0, 0, "0/1 0/1 1/1 0/1 1/1");
        due("beside another: step", untouched.step(0, 0, 0, 0) ? 1 : 0, 1);
        due("beside another: noise", untouched.noise(99, 0, 99), 0);
        untouched.advance();
        dueExample("beside another", other);
    }

    private static void initial() {
        ExactEstimates x = example();
        due("initial(99, -99, 99, 98, 99)", x.initial(99, -99, 99, 98, 99), 0);
        due("after initial: time()", x.time(), 0);
        due("after initial: observations()", x.observations(), 0);
        due("after initial: sign(0, 1, 0)", x.sign(0, 1, 0), -2);
        due("after initial: sign(3, 0, 0)", x.sign(3, 0, 0), -2);
        for (int kind = 0; kind <= 2; kind++) {
            dueEstimate("after initial", x, kind, 0, "99/1 -99/1 99/1 98/1 99/1");
        }
        due("after initial: advance()", x.advance(), 1);
        dueEstimate("step and noise stay", x, 0, 1, "0/1 -99/1 396/1 198/1 100/1");
        due("initial(-99, 99, 1, -9, 82)", x.initial(-99, 99, 1, -9, 82), 0);
        dueEstimate("once more", x, 0, 0, "-99/1 99/1 1/1 -9/1 82/1");
        due("once more: time()", x.time(), 0);
        for (int i = 0; i < 6; i++) {
            due("once more: observe", x.observe(0, 0, 1, 0), i);
        }
        due("once more: a seventh", x.observe(0, 0, 1, 0), -5);
    }

    private static void initialRefused() {
        ExactEstimates x = example();
        int[] wrong = {-100, 100, FAR[0], FAR[1], FAR[2], FAR[3]};
        for (int w : wrong) {
            due("initial m0 " + w, x.initial(w, 0, 1, 0, 1), -3);
            due("initial m1 " + w, x.initial(0, w, 1, 0, 1), -3);
            due("initial p00 " + w, x.initial(0, 0, w, 0, 1), -3);
            due("initial p01 " + w, x.initial(0, 0, 1, w, 1), -3);
            due("initial p11 " + w, x.initial(0, 0, 1, 0, w), -3);
            due("initial, wrong and flat, " + w, x.initial(w, 0, 0, 0, 0), -3);
        }
        int[][] flat = {{0, 0, 0}, {0, 0, 1}, {1, 0, 0}, {1, 1, 1}, {1, -1, 1}, {4, 6, 9}, {-1, 0, -1}, {-99, 0, -99},
            {-1, 0, 1}, {1, 0, -1}, {99, 99, 99}, {99, -99, 99}, {98, 99, 99}, {0, 1, 5}, {5, 1, 0}};
        for (int[] p : flat) {
            due("initial, flat", x.initial(7, 7, p[0], p[1], p[2]), -4);
        }
        dueExample("after refused initial", x);
        due("just positive", x.initial(0, 0, 99, 98, 98), 0);
        due("just positive", x.initial(0, 0, 2, 1, 1), 0);
    }

    private static void step() {
        ExactEstimates x = new ExactEstimates();
        x.initial(5, 7, 2, 1, 3);
        due("step(3, -3, -3, 2)", x.step(3, -3, -3, 2) ? 1 : 0, 1);
        for (int place = 0; place < 4; place++) {
            int[] wrong = {-4, 4, FAR[0], FAR[1], FAR[2], FAR[3]};
            for (int w : wrong) {
                int[] f = {0, 0, 0, 0};
                f[place] = w;
                due("step with " + w + " at " + place, x.step(f[0], f[1], f[2], f[3]) ? 1 : 0, 0);
            }
        }
        dueEstimate("a step alone", x, 2, 0, "5/1 7/1 2/1 1/1 3/1");
        x.advance();
        dueEstimate("step(3, -3, -3, 2)", x, 0, 1, "-6/1 -1/1 28/1 -21/1 19/1");
        due("step(-3, 3, 3, -3)", x.step(-3, 3, 3, -3) ? 1 : 0, 1);
        dueEstimate("the step is from now on", x, 0, 1, "-6/1 -1/1 28/1 -21/1 19/1");
        x.advance();
        dueEstimate("step(-3, 3, 3, -3)", x, 0, 2, "15/1 -15/1 802/1 -801/1 802/1");
        due("step(0, 0, 0, 0)", x.step(0, 0, 0, 0) ? 1 : 0, 1);
        x.advance();
        dueEstimate("step(0, 0, 0, 0)", x, 0, 3, "0/1 0/1 1/1 0/1 1/1");
        x.observe(1, 1, 1, 50);
        dueEstimate("nothing is learnt through a step of zeros", x, 2, 0, "5/1 7/1 2/1 1/1 3/1");
        dueEstimate("nothing is learnt through a step of zeros", x, 2, 2, "15/1 -15/1 802/1 -801/1 802/1");
    }

    private static void noise() {
        ExactEstimates x = new ExactEstimates();
        due("noise(99, -98, 99)", x.noise(99, -98, 99), 0);
        int[] wrong = {-100, 100, FAR[0], FAR[1], FAR[2], FAR[3]};
        for (int w : wrong) {
            due("noise q00 " + w, x.noise(w, 0, 1), -3);
            due("noise q01 " + w, x.noise(1, w, 1), -3);
            due("noise q11 " + w, x.noise(1, 0, w), -3);
            due("noise, wrong and flat, " + w, x.noise(0, 0, w), -3);
        }
        int[][] flat = {{0, 0, 0}, {0, 0, 1}, {1, 0, 0}, {1, 1, 1}, {1, -1, 1}, {4, 6, 9}, {-1, 0, -1}, {-2, 1, -2},
            {1, 0, -1}, {99, 99, 99}, {98, -99, 98}};
        for (int[] q : flat) {
            due("noise, flat", x.noise(q[0], q[1], q[2]), -4);
        }
        dueEstimate("a noise alone", x, 1, 0, "0/1 0/1 1/1 0/1 1/1");
        x.advance();
        dueEstimate("noise(99, -98, 99)", x, 0, 1, "0/1 0/1 100/1 -98/1 100/1");
        due("noise(2, 1, 1)", x.noise(2, 1, 1), 0);
        dueEstimate("the noise is from now on", x, 0, 1, "0/1 0/1 100/1 -98/1 100/1");
        x.observe(1, 0, 50, 30);
        dueEstimate("smoothed by the noise of its own advance", x, 2, 0, "1/5 0/1 149/150 0/1 1/1");
        x.advance();
        dueEstimate("noise(2, 1, 1)", x, 0, 2, "20/1 -98/5 106/3 -95/3 2773/75");
    }

    private static void observe() {
        ExactEstimates x = example();
        dueExample("two observations", x);
        due("observe(0, 0, 5, 100)", x.observe(0, 0, 5, 100), 2);
        dueEstimate("a look at nothing", x, 1, 1, "276/29 153/29 94/29 25/29 23/29");
        dueObservation("a look at nothing", x, 2, "100/1 5/1");
        due("observe(9, -9, 99, 999)", x.observe(9, -9, 99, 999), 3);
        due("observe(-9, 9, 1, -999)", x.observe(-9, 9, 1, -999), 4);
        dueObservation("the edges", x, 3, "27864/29 8298/29");
        dueObservation("the edges", x, 4, "-153252/461 60619/922");
        due("observe(-9, -9, 1, 0)", x.observe(-9, -9, 1, 0), 5);
        due("observe, the seventh", x.observe(1, 1, 1, 1), -5);
        due("observe, the seventh, wrong too", x.observe(10, 1, 1, 1), -3);
        due("observe, the seventh, at another time", x.advance(), 2);
        due("observe, the seventh, at another time", x.observe(1, 1, 1, 1), -5);
        due("observations()", x.observations(), 6);

        ExactEstimates y = new ExactEstimates();
        y.observe(1, 0, 1, 4);
        y.advance();
        y.observe(1, 0, 1, 9);
        y.observe(1, 0, 1, 9);
        dueEstimate("an observation belongs to its time", y, 1, 0, "2/1 0/1 1/2 0/1 1/1");
        dueEstimate("an observation belongs to its time", y, 0, 1, "2/1 0/1 3/2 0/1 2/1");
        dueEstimate("one after the other", y, 1, 1, "29/4 0/1 3/8 0/1 2/1");
        dueEstimate("from all that was seen", y, 2, 0, "15/4 0/1 3/8 0/1 1/1");
    }

    private static void observeRefused() {
        ExactEstimates x = example();
        int[] wrong = {-10, 10, FAR[0], FAR[1], FAR[2], FAR[3]};
        for (int w : wrong) {
            due("observe h0 " + w, x.observe(w, 0, 1, 0), -3);
            due("observe h1 " + w, x.observe(0, w, 1, 0), -3);
        }
        int[] wrongR = {0, -1, 100, FAR[0], FAR[1], FAR[2], FAR[3]};
        for (int w : wrongR) {
            due("observe r " + w, x.observe(1, 1, w, 0), -3);
        }
        int[] wrongZ = {-1000, 1000, FAR[0], FAR[1], FAR[2], FAR[3]};
        for (int w : wrongZ) {
            due("observe z " + w, x.observe(1, 1, 1, w), -3);
        }
        dueExample("after refused observe", x);
    }

    private static void advance() {
        ExactEstimates x = new ExactEstimates();
        x.initial(3, 4, 1, 0, 1);
        x.step(0, 1, -1, 0);
        due("advance()", x.advance(), 1);
        due("advance()", x.advance(), 2);
        due("advance()", x.advance(), 3);
        due("advance() at 3", x.advance(), -5);
        due("advance() at 3", x.advance(), -5);
        due("time() at 3", x.time(), 3);
        dueEstimate("a turn", x, 0, 0, "3/1 4/1 1/1 0/1 1/1");
        dueEstimate("a turn", x, 0, 1, "4/1 -3/1 2/1 0/1 2/1");
        dueEstimate("a turn", x, 0, 2, "-3/1 -4/1 3/1 0/1 3/1");
        dueEstimate("a turn", x, 0, 3, "-4/1 3/1 4/1 0/1 4/1");
        due("observe at 3", x.observe(1, 0, 4, 4), 0);
        dueEstimate("seen at 3", x, 1, 3, "0/1 3/1 2/1 0/1 4/1");
        dueEstimate("seen from 0", x, 2, 0, "3/1 3/1 1/1 0/1 7/8");
        dueEstimate("seen from 2", x, 2, 2, "-3/1 -1/1 3/1 0/1 15/8");
        due("initial after 3", x.initial(0, 0, 1, 0, 1), 0);
        due("advance() anew", x.advance(), 1);
    }

    private static void timeAndObservations() {
        ExactEstimates x = new ExactEstimates();
        for (int t = 0; t <= 3; t++) {
            due("time()", x.time(), t);
            due("observations()", x.observations(), t);
            x.observe(1, 1, 1, 1);
            due("observations()", x.observations(), t + 1);
            due("time()", x.time(), t);
            x.advance();
        }
        x.observe(1, 1, 1, 1);
        x.observe(1, 1, 1, 1);
        x.observe(1, 1, 1, 1);
        due("observations() when full", x.observations(), 6);
        due("time() when full", x.time(), 3);
        x.initial(0, 0, 0, 0, 0);
        due("observations() after a refused initial", x.observations(), 6);
        due("time() after a refused initial", x.time(), 3);
        x.initial(0, 0, 1, 0, 1);
        due("observations() after initial", x.observations(), 0);
        due("time() after initial", x.time(), 0);
    }

    private static void sign() {
        ExactEstimates x = example();
        due("sign(0, 0, 0)", x.sign(0, 0, 0), 1);
        due("sign(0, 0, 1)", x.sign(0, 0, 1), -1);
        due("sign(1, 0, 1)", x.sign(1, 0, 1), -1);
        due("sign(2, 0, 1)", x.sign(2, 0, 1), 1);
        due("sign(3, 1, 0)", x.sign(3, 1, 0), 1);
        x.initial(0, 3, 2, -1, 1);
        due("sign of m0 = 0", x.sign(0, 0, 0), 0);
        due("sign of p01 = -1", x.sign(0, 0, 3), -1);
        x.observe(0, 1, 1, 3);
        due("sign of an innovation of 0", x.sign(3, 0, 0), 0);
        x.observe(0, 1, 1, 2);
        due("sign of an innovation of -1", x.sign(3, 1, 0), -1);
        due("sign of a spread", x.sign(3, 1, 1), 1);
    }

    private static void bits() {
        ExactEstimates x = example();
        due("bits of 123", x.bits(2, 0, 0, false), 7);
        due("bits of 29", x.bits(2, 0, 0, true), 5);
        due("bits of -4", x.bits(1, 0, 1, false), 3);
        due("bits of 3", x.bits(1, 0, 1, true), 2);
        x.initial(0, -64, 63, 0, 1);
        due("bits of 0", x.bits(0, 0, 0, false), 0);
        due("bits of 1, the denominator of 0", x.bits(0, 0, 0, true), 1);
        due("bits of -64", x.bits(0, 0, 1, false), 7);
        due("bits of 63", x.bits(0, 0, 2, false), 6);
        due("bits of 1", x.bits(0, 0, 4, false), 1);
    }

    private static void word() {
        ExactEstimates x = example();
        due("word 0 of -4", x.word(1, 0, 1, false, 0), 4);
        due("word 0 of 3", x.word(1, 0, 1, true, 0), 3);
        due("word 1 of 3", x.word(1, 0, 1, true, 1), 0);
        for (int k = 1; k <= 31; k++) {
            due("word " + k + " of 4", x.word(1, 0, 1, false, k), 0);
        }
        int[] wrong = {-1, 32, 33, FAR[0], FAR[1], FAR[2], FAR[3]};
        for (int k : wrong) {
            due("word k " + k, x.word(1, 0, 1, false, k), -3);
            due("word k " + k + " below", x.word(1, 0, 1, true, k), -3);
            due("word k " + k + " of no number", x.word(1, 2, 1, false, k), -2);
        }
        x.initial(0, 0, 1, 0, 1);
        due("word of 0", x.word(0, 0, 0, false, 0), 0);
        due("word of the denominator of 0", x.word(0, 0, 0, true, 0), 1);
        x.observe(0, 0, 98, 0);
        due("word of the denominator of 0, later", x.word(1, 0, 0, true, 0), 1);
        due("lowest terms", x.word(1, 0, 2, true, 0), 1);
    }

    /** Looks at nothing leave the estimates as they are, but may leave common divisors behind. */
    private static void lowestTerms() {
        int[][] blurs = {{99, 99, 99, 99}, {99, 97, 95, 89}, {64, 96, 64, 32}, {83, 96, 98, 81}, {79, 73, 71, 67}};
        for (int[] r : blurs) {
            ExactEstimates x = new ExactEstimates();
            x.initial(1, -2, 4, 1, 3);
            x.observe(0, 0, r[0], 999);
            x.observe(1, 0, 2, 5);
            x.observe(0, 0, r[1], -999);
            x.step(1, 1, 0, 1);
            x.noise(2, 1, 1);
            x.advance();
            x.observe(0, 0, r[2], 0);
            x.observe(0, 1, 1, 7);
            x.observe(0, 0, r[3], 17);
            dueEstimate("lowest terms", x, 1, 0, "11/3 -4/3 4/3 1/3 17/6");
            dueEstimate("lowest terms", x, 2, 0, "123/29 103/29 38/29 4/29 34/29");
            dueEstimate("lowest terms", x, 0, 1, "7/3 -4/3 41/6 25/6 23/6");
            dueEstimate("lowest terms", x, 1, 1, "276/29 153/29 94/29 25/29 23/29");
            dueObservation("lowest terms", x, 4, "25/3 29/6");
            dueObservation("lowest terms", x, 0, "999/1 " + r[0] + "/1");
            dueObservation("lowest terms", x, 5, "17/1 " + r[3] + "/1");
            due("bits in lowest terms", x.bits(1, 0, 2, false), 3);
            due("bits in lowest terms, below", x.bits(1, 0, 2, true), 2);
        }
    }

    private static void compare() {
        ExactEstimates x = example();
        due("11/3 and 11/3", x.compare(1, 0, 0, 11, 3), 0);
        due("11/3 and 22/6", x.compare(1, 0, 0, 22, 6), 0);
        due("11/3 and 12/3", x.compare(1, 0, 0, 12, 3), -1);
        due("11/3 and 10/3", x.compare(1, 0, 0, 10, 3), 1);
        due("-4/3 and -4/3", x.compare(1, 0, 1, -4, 3), 0);
        due("-4/3 and -5/3", x.compare(1, 0, 1, -5, 3), 1);
        due("-4/3 and -1", x.compare(1, 0, 1, -1, 1), -1);
        due("-4/3 and the least", x.compare(1, 0, 1, Integer.MIN_VALUE, 1), 1);
        due("11/3 and the least", x.compare(1, 0, 0, Integer.MIN_VALUE, 1), 1);
        due("11/3 and the greatest", x.compare(1, 0, 0, Integer.MAX_VALUE, 1), -1);
        due("11/3 and nearly 1", x.compare(1, 0, 0, Integer.MAX_VALUE - 1, Integer.MAX_VALUE), 1);
        due("-4/3 and little more than -1", x.compare(1, 0, 1, Integer.MIN_VALUE, Integer.MAX_VALUE), -1);
        due("-2 and -2", x.compare(0, 0, 1, -2, 1), 0);
        due("29/6 and 29/6", x.compare(3, 1, 1, 29, 6), 0);
        int[] wrong = {0, -1, FAR[0], FAR[1]};
        for (int q : wrong) {
            due("compare q " + q, x.compare(1, 0, 0, 11, q), -3);
            due("compare q " + q + " of no number", x.compare(1, 2, 0, 11, q), -2);
        }
        x.initial(0, 0, 1, 0, 1);
        due("0 and 0", x.compare(0, 0, 0, 0, Integer.MAX_VALUE), 0);
        due("0 and 1 / the greatest", x.compare(0, 0, 0, 1, Integer.MAX_VALUE), -1);
        due("0 and -1 / the greatest", x.compare(0, 0, 0, -1, Integer.MAX_VALUE), 1);
    }

    private static void noSuchNumber() {
        ExactEstimates x = example();
        int[][] none = {{-1, 0, 0}, {4, 0, 0}, {0, -1, 0}, {0, 2, 0}, {1, 2, 0}, {2, 2, 0}, {0, 0, -1}, {0, 0, 5},
            {1, 1, 5}, {2, 1, 5}, {2, -1, 0}, {3, -1, 0}, {3, 2, 0}, {3, 0, 2}, {3, 1, -1}, {3, 6, 0}, {0, 4, 0}};
        for (int[] n : none) {
            dueNone(x, n[0], n[1], n[2]);
        }
        for (int far : FAR) {
            dueNone(x, far, 0, 0);
            dueNone(x, 0, far, 0);
            dueNone(x, 2, far, 0);
            dueNone(x, 1, 0, far);
            dueNone(x, 3, far, 0);
            dueNone(x, 3, 0, far);
        }
        dueExample("after no such number", x);
    }

    private static void dueNone(ExactEstimates x, int kind, int t, int e) {
        String number = " of " + kind + ", " + t + ", " + e;
        due("sign" + number, x.sign(kind, t, e), -2);
        due("bits" + number, x.bits(kind, t, e, false), -2);
        due("bits below" + number, x.bits(kind, t, e, true), -2);
        due("word" + number, x.word(kind, t, e, false, 0), -2);
        due("word below" + number, x.word(kind, t, e, true, 40), -2);
        due("compare" + number, x.compare(kind, t, e, 1, 1), -2);
        due("compare by 0" + number, x.compare(kind, t, e, 1, 0), -2);
    }

    private static void largeNumbers() {
        ExactEstimates x = new ExactEstimates();
        x.initial(97, -89, 98, -35, 95);
        x.observe(9, -7, 97, 998);
        x.observe(-8, 9, 89, -997);
        x.step(3, -2, 3, 3);
        x.noise(97, 13, 89);
        x.advance();
        x.observe(7, 9, 83, 991);
        x.observe(9, 8, 79, -983);
        x.step(-3, 2, 1, 3);
        x.noise(91, -17, 98);
        x.advance();
        x.observe(9, -5, 98, 977);
        x.step(3, 3, -2, 3);
        x.noise(99, 11, 97);
        x.advance();
        x.observe(8, 7, 95, -971);
        dueEstimate("large", x, 0, 3, "12766350071521288573511/3443682322987070761"
                + " 3901257117347301114601/3443682322987070761 11482063401420476730357/3443682322987070761"
                + " 4501911529953782249369/3443682322987070761 2165401126399519277570/3443682322987070761");
        dueEstimate("large", x, 1, 3, "13590492530313430565026481/79146938474117314058553"
                + " -8801599644262198832237281/26382312824705771352851"
                + " 66488005534071393357277676/1345497954059994338995401"
                + " -24770662139051062826062843/448499318019998112998467"
                + " 28540825516621241078791082/448499318019998112998467");
        dueEstimate("large", x, 2, 0, "5584702061976755323980044/79146938474117314058553"
                + " -3370115150654078108640782/79146938474117314058553"
                + " 2908365208071101601216989/1345497954059994338995401"
                + " 2609098038093122120682865/1345497954059994338995401"
                + " 3191290611952074019403195/1345497954059994338995401");
        dueEstimate("large", x, 2, 1, "-2539447811020661257450362/26382312824705771352851"
                + " 395331910798208833559428/4655702263183371415209"
                + " 3655217241857765689521808/1345497954059994338995401"
                + " -59939801976937706410277/26382312824705771352851 11246323096969918426645/4655702263183371415209");
        dueObservation("large", x, 5,
                "-132783415929221862099226/3443682322987070761 1345497954059994338995401/3443682322987070761");
        due("large: bits", x.bits(1, 3, 2, false), 86);
        due("large: bits", x.bits(1, 3, 2, true), 81);
        due("large: bits of a full second word", x.bits(3, 4, 1, false), 64);
        due("large: a word with its highest bit", x.word(2, 1, 3, true, 0), 4226790163L);
        due("large: just below 70.5612", x.compare(2, 0, 0, 705612, 10000), -1);
        due("large: just above 70.5611", x.compare(2, 0, 0, 705611, 10000), 1);
    }
}
