import java.math.BigInteger;
import java.util.List;
import java.util.Set;
import java.util.TreeSet;

/** A test of its own for each sentence of the promises 1 to 12 that names a boundary. */
public final class BoundaryTest {
    private static final int LARGEST = Integer.MAX_VALUE;
    private static final int LEAST = Integer.MIN_VALUE;
    private static final Checks CHECKS = new Checks();

    public static void main(String[] args) {
        CHECKS.sentence("Promise 1: All as said for the first.", BoundaryTest::newObject);
        CHECKS.sentence("Promise 1: .. whatever other objects have come to.", BoundaryTest::objectsApart);
        CHECKS.sentence("Promise 2: Begins anew.", BoundaryTest::beginsAnew);
        CHECKS.sentence("Promise 2: .. with this initial estimate .. Answers 0.", BoundaryTest::initialEstimate);
        CHECKS.sentence("Promise 2: .. at time 0.", BoundaryTest::initialAtTimeZero);
        CHECKS.sentence("Promise 2: .. without observations.", BoundaryTest::initialWithoutObservations);
        CHECKS.sentence("Promise 2: .. step and noise stay.", BoundaryTest::stepAndNoiseStay);
        CHECKS.sentence("Promise 2: BAD when one is not -99 .. 99.", BoundaryTest::initialBad);
        CHECKS.sentence("Promise 2: FLAT.", BoundaryTest::initialFlat);
        CHECKS.sentence("Promise 3: The step from now on (each of -3 .. 3 at each place).", BoundaryTest::stepTaken);
        CHECKS.sentence("Promise 3: The step from now on (neither earlier nor for one advance alone).",
                BoundaryTest::stepFromNowOn);
        CHECKS.sentence("Promise 3: false, refused, when one is not -3 .. 3.", BoundaryTest::stepRefused);
        CHECKS.sentence("Promise 4: The noise from now on; answers 0 (up to the edges).", BoundaryTest::noiseTaken);
        CHECKS.sentence("Promise 4: The noise from now on (neither earlier nor for one advance alone).",
                BoundaryTest::noiseFromNowOn);
        CHECKS.sentence("Promise 4: BAD when one is not -99 .. 99.", BoundaryTest::noiseBad);
        CHECKS.sentence("Promise 4: FLAT.", BoundaryTest::noiseFlat);
        CHECKS.sentence("Promise 5: An observation; answers its number.", BoundaryTest::observeAnswers);
        CHECKS.sentence("Promise 5: .. of h0 and h1 -9 .. 9, r 1 .. 99, z -999 .. 999, up to the edges.",
                BoundaryTest::observeTaken);
        CHECKS.sentence("Promise 5: BAD when h0 or h1 is not -9 .. 9, r not 1 .. 99, or z not -999 .. 999.",
                BoundaryTest::observeBad);
        CHECKS.sentence("Promise 5: FULL when there are 6.", BoundaryTest::observeFull);
        CHECKS.sentence("Promise 6: The time grows by 1; answers it.", BoundaryTest::advanceGrows);
        CHECKS.sentence("Promise 6: FULL when it is 3.", BoundaryTest::advanceFull);
        CHECKS.sentence("Promise 7: The time.", BoundaryTest::time);
        CHECKS.sentence("Promise 8: How many observations there are.", BoundaryTest::observations);
        CHECKS.sentence("Promise 9: -1, 0 or 1, as a number is less than, equal to, or greater than 0.",
                BoundaryTest::sign);
        CHECKS.sentence("Promise 9: NONE.", BoundaryTest::signNone);
        CHECKS.sentence("Promise 10: How many bits the numerator of a number (its denominator when lower) has.",
                BoundaryTest::bits);
        CHECKS.sentence("Promise 10: .. without zeros in front; 0 for 0.", BoundaryTest::bitsOfZero);
        CHECKS.sentence("Promise 10: .. (at the ends of words: 31, 32, 33, 63, 64, 65, 95, 96, 97 bits).",
                BoundaryTest::bitsAtTheEndsOfWords);
        CHECKS.sentence("Promise 10: NONE.", BoundaryTest::bitsNone);
        CHECKS.sentence("Promise 11: The bits 32 * k .. 32 * k + 31 of the numerator of a number"
                + " (of its denominator when lower).",
                BoundaryTest::word);
        CHECKS.sentence("Promise 11: .. as 0 .. 2^32 - 1.", BoundaryTest::wordWithoutSign);
        CHECKS.sentence("Promise 11: .. 0 where there are no more.", BoundaryTest::noMoreWords);
        CHECKS.sentence("Promise 11: NONE.", BoundaryTest::wordNone);
        CHECKS.sentence("Promise 11: BAD when k is not 0 .. 31.", BoundaryTest::wordBad);
        CHECKS.sentence("Promise 12: -1, 0 or 1, as a number is less than, equal to, or greater than p / q.",
                BoundaryTest::compare);
        CHECKS.sentence("Promise 12: .. for every p, and every q that is 1 or greater.",
                BoundaryTest::compareWithTheLargest);
        CHECKS.sentence("Promise 12: .. (also next to the largest numbers, with the largest q).",
                BoundaryTest::compareNextToLargeNumbers);
        CHECKS.sentence("Promise 12: NONE.", BoundaryTest::compareNone);
        CHECKS.sentence("Promise 12: BAD when q is not 1 or greater.", BoundaryTest::compareBad);
        CHECKS.end();
    }

    private static void newObject() {
        Subject x = new Subject();
        CHECKS.due(x, Call.time(), 0);
        CHECKS.due(x, Call.observations(), 0);
        for (int kind = 0; kind <= 2; kind++) {
            CHECKS.dueEstimate("new", x, kind, 0, "0/1 0/1 1/1 0/1 1/1");
            CHECKS.due(x, Call.sign(kind, 1, 0), -2);
        }
        CHECKS.due(x, Call.sign(3, 0, 0), -2);
        CHECKS.due(x, Call.observe(1, 0, 1, 2), 0);
        CHECKS.due(x, Call.observe(0, 1, 1, 4), 1);
        CHECKS.due(x, Call.advance(), 1);
        CHECKS.dueEstimate("by the first step and noise", x, 0, 1, "1/1 2/1 3/2 0/1 3/2");
    }

    private static void objectsApart() {
        Subject other = new Subject();
        Runs.example(other);
        Subject x = new Subject();
        CHECKS.dueEstimate("beside another", x, 0, 0, "0/1 0/1 1/1 0/1 1/1");
        CHECKS.due(x, Call.advance(), 1);
        CHECKS.dueEstimate("beside another", x, 0, 1, "0/1 0/1 2/1 0/1 2/1");
        x.step(0, 0, 0, 0);
        x.noise(99, 0, 99);
        Runs.fill(x);
        CHECKS.due(other, Call.time(), 1);
        CHECKS.due(other, Call.observations(), 2);
        CHECKS.dueEstimate("the other", other, 2, 0, "123/29 103/29 38/29 4/29 34/29");
        CHECKS.due(other, Call.advance(), 2);
        CHECKS.dueEstimate("the other", other, 0, 2, "429/29 153/29 225/29 77/29 52/29");
    }

    /** Whatever was done before, and however far it went, a run that begins anew tells what it tells alone. */
    private static void beginsAnew() {
        List<List<Call>> runs = Runs.large();
        for (int i = 0; i < runs.size(); i++) {
            List<Call> earlier = runs.get(i);
            List<Call> run = runs.get((i + 1) % runs.size());
            Reference alone = new Reference();
            Runs.make(alone, run);
            for (int length = 1; length <= earlier.size(); length++) {
                Subject x = Runs.made(earlier.subList(0, length));
                Runs.make(x, run);
                for (int[] n : Runs.allNumbers()) {
                    CHECKS.due(x, Call.sign(n[0], n[1], n[2]), alone.sign(n[0], n[1], n[2]));
                    CHECKS.due(x, Call.word(n[0], n[1], n[2], false, 0), alone.word(n[0], n[1], n[2], false, 0));
                    CHECKS.due(x, Call.word(n[0], n[1], n[2], true, 0), alone.word(n[0], n[1], n[2], true, 0));
                }
            }
        }
    }

    private static void initialEstimate() {
        int[][] taken = {{-99, -99, 99, -98, 99}, {99, 99, 99, 98, 99}, {-99, 99, 1, 0, 1}, {99, -99, 1, 0, 99},
            {0, 0, 99, 0, 1}, {-98, 98, 98, 97, 98}, {1, -1, 2, -1, 1}};
        for (int[] n : taken) {
            Subject x = new Subject();
            Runs.fill(x);
            CHECKS.due(x, Call.initial(n[0], n[1], n[2], n[3], n[4]), 0);
            String want = n[0] + "/1 " + n[1] + "/1 " + n[2] + "/1 " + n[3] + "/1 " + n[4] + "/1";
            for (int kind = 0; kind <= 2; kind++) {
                CHECKS.dueEstimate("begun anew", x, kind, 0, want);
            }
        }
        for (int m = -99; m <= 99; m++) {
            Subject x = new Subject();
            CHECKS.due(x, Call.initial(m, -m, 1, 0, 1), 0);
            CHECKS.due("m0", x.number(0, 0, 0), m + "/1");
            CHECKS.due("m1", x.number(0, 0, 1), -m + "/1");
        }
    }

    private static void initialAtTimeZero() {
        for (int from = 0; from <= 3; from++) {
            Subject x = new Subject();
            for (int t = 0; t < from; t++) {
                x.advance();
            }
            CHECKS.due(x, Call.initial(5, 7, 2, 1, 3), 0);
            CHECKS.due(x, Call.time(), 0);
            CHECKS.due(x, Call.sign(0, 1, 0), -2);
            for (int t = 1; t <= 3; t++) {
                CHECKS.due(x, Call.advance(), t);
                CHECKS.dueEstimate("anew", x, 0, t, "5/1 7/1 " + (2 + t) + "/1 1/1 " + (3 + t) + "/1");
            }
            CHECKS.due(x, Call.advance(), -5);
        }
    }

    private static void initialWithoutObservations() {
        for (int from = 0; from <= 6; from++) {
            Subject x = new Subject();
            for (int i = 0; i < from; i++) {
                x.observe(9, -8, 3, 500);
            }
            CHECKS.due(x, Call.initial(5, 7, 2, 1, 3), 0);
            CHECKS.due(x, Call.observations(), 0);
            CHECKS.due(x, Call.sign(3, 0, 0), -2);
            CHECKS.dueEstimate("nothing is seen", x, 1, 0, "5/1 7/1 2/1 1/1 3/1");
            for (int i = 0; i < 6; i++) {
                CHECKS.due(x, Call.observe(0, 0, 1 + i, i), i);
                CHECKS.dueObservation("anew", x, i, i + "/1 " + (1 + i) + "/1");
            }
            CHECKS.due(x, Call.observe(0, 0, 1, 0), -5);
            CHECKS.due(x, Call.initial(5, 7, 2, 1, 3), 0);
            CHECKS.due(x, Call.advance(), 1);
            CHECKS.dueEstimate("nothing is seen later", x, 2, 0, "5/1 7/1 2/1 1/1 3/1");
        }
    }

    private static void stepAndNoiseStay() {
        Subject x = new Subject();
        x.step(1, 2, 3, -1);
        x.noise(5, -2, 7);
        x.initial(5, 7, 2, 1, 3);
        x.advance();
        CHECKS.dueEstimate("they stay", x, 0, 1, "19/1 8/1 23/1 3/1 22/1");
        x.step(0, 1, 1, 0);
        x.noise(1, 0, 2);
        Runs.fill(x);
        x.initial(5, 7, 2, 1, 3);
        x.initial(4, 7, 2, 1, 3);
        x.advance();
        CHECKS.dueEstimate("the last ones stay", x, 0, 1, "7/1 4/1 4/1 1/1 4/1");
    }

    private static void initialBad() {
        Subject x = new Subject();
        for (int w : new int[] {-100, 100}) {
            dueInitialBad(x, w);
        }
        for (int w : Call.FAR) {
            dueInitialBad(x, w);
        }
        CHECKS.due(x, Call.initial(99, -99, 99, 98, 99), 0);
        CHECKS.due(x, Call.initial(-99, 99, 99, -98, 99), 0);
        // The lower edge of p00 and p11 and both of p01 are not BAD either, but never positive.
        CHECKS.due(x, Call.initial(0, 0, -99, 0, 1), -4);
        CHECKS.due(x, Call.initial(0, 0, 1, 0, -99), -4);
        CHECKS.due(x, Call.initial(0, 0, 99, 99, 99), -4);
        CHECKS.due(x, Call.initial(0, 0, 99, -99, 99), -4);
    }

    private static void dueInitialBad(Subject x, int w) {
        CHECKS.due(x, Call.initial(w, 0, 1, 0, 1), -3);
        CHECKS.due(x, Call.initial(0, w, 1, 0, 1), -3);
        CHECKS.due(x, Call.initial(0, 0, w, 0, 1), -3);
        CHECKS.due(x, Call.initial(0, 0, 99, w, 99), -3);
        CHECKS.due(x, Call.initial(0, 0, 1, 0, w), -3);
    }

    private static void initialFlat() {
        Subject x = new Subject();
        int[][] flat = {{0, 0, 0}, {0, 0, 1}, {1, 0, 0}, {1, 1, 1}, {1, -1, 1}, {4, 6, 9}, {-1, 0, -1}, {-1, 0, 1},
            {1, 0, -1}, {98, 98, 98}, {99, -99, 98}, {-99, 98, -99}};
        for (int[] p : flat) {
            CHECKS.due(x, Call.initial(7, -7, p[0], p[1], p[2]), -4);
        }
        CHECKS.dueEstimate("still as at first", x, 0, 0, "0/1 0/1 1/1 0/1 1/1");
        CHECKS.due(x, Call.initial(7, -7, 98, 97, 97), 0);
        CHECKS.due(x, Call.initial(7, -7, 5, -3, 2), 0);
    }

    private static void stepTaken() {
        for (int f = 0; f < 7 * 7 * 7 * 7; f++) {
            int f00 = f % 7 - 3;
            int f01 = f / 7 % 7 - 3;
            int f10 = f / 49 % 7 - 3;
            int f11 = f / 343 - 3;
            Subject x = new Subject();
            x.initial(1, 10, 1, 0, 1);
            CHECKS.due(x, Call.step(f00, f01, f10, f11), 1);
            CHECKS.due(x, Call.advance(), 1);
            CHECKS.due("m0", x.number(0, 1, 0), f00 + 10 * f01 + "/1");
            CHECKS.due("m1", x.number(0, 1, 1), f10 + 10 * f11 + "/1");
            CHECKS.due("p01", x.number(0, 1, 3), f00 * f10 + f01 * f11 + "/1");
        }
    }

    private static void stepFromNowOn() {
        Subject x = new Subject();
        x.initial(5, 7, 1, 0, 1);
        x.advance();
        CHECKS.due(x, Call.step(2, 0, 0, -1), 1);
        CHECKS.dueEstimate("not at once", x, 1, 1, "5/1 7/1 2/1 0/1 2/1");
        x.advance();
        x.advance();
        CHECKS.dueEstimate("not earlier", x, 0, 1, "5/1 7/1 2/1 0/1 2/1");
        CHECKS.dueEstimate("at the next advance", x, 0, 2, "10/1 -7/1 9/1 0/1 3/1");
        CHECKS.dueEstimate("and at the one after it", x, 0, 3, "20/1 7/1 37/1 0/1 4/1");
        CHECKS.dueEstimate("and not backwards", x, 2, 0, "5/1 7/1 1/1 0/1 1/1");
    }

    private static void stepRefused() {
        Subject x = new Subject();
        for (int w : new int[] {-4, 4}) {
            dueStepRefused(x, w);
        }
        for (int w : Call.FAR) {
            dueStepRefused(x, w);
        }
        CHECKS.due(x, Call.step(3, -3, -3, 3), 1);
        dueStepRefused(x, 4);
        x.initial(5, 7, 1, 0, 1);
        x.advance();
        CHECKS.dueEstimate("the step that was taken", x, 0, 1, "-6/1 6/1 19/1 -18/1 19/1");
    }

    private static void dueStepRefused(Subject x, int w) {
        CHECKS.due(x, Call.step(w, 0, 0, 0), 0);
        CHECKS.due(x, Call.step(0, w, 0, 0), 0);
        CHECKS.due(x, Call.step(0, 0, w, 0), 0);
        CHECKS.due(x, Call.step(0, 0, 0, w), 0);
    }

    private static void noiseTaken() {
        int[][] taken = {{1, 0, 1}, {99, 0, 99}, {99, 98, 99}, {99, -98, 99}, {99, 0, 1}, {1, 0, 99}, {2, 1, 1},
            {1, -1, 2}};
        for (int[] q : taken) {
            Subject x = new Subject();
            x.step(0, 0, 0, 0);
            CHECKS.due(x, Call.noise(q[0], q[1], q[2]), 0);
            CHECKS.due(x, Call.advance(), 1);
            CHECKS.dueEstimate("noise alone", x, 0, 1, "0/1 0/1 " + q[0] + "/1 " + q[1] + "/1 " + q[2] + "/1");
        }
    }

    private static void noiseFromNowOn() {
        Subject x = new Subject();
        x.initial(5, 7, 1, 0, 1);
        x.advance();
        CHECKS.due(x, Call.noise(50, 30, 40), 0);
        CHECKS.dueEstimate("not at once", x, 1, 1, "5/1 7/1 2/1 0/1 2/1");
        x.advance();
        x.advance();
        CHECKS.dueEstimate("not earlier", x, 0, 1, "5/1 7/1 2/1 0/1 2/1");
        CHECKS.dueEstimate("at the next advance", x, 0, 2, "5/1 7/1 52/1 30/1 42/1");
        CHECKS.dueEstimate("and at the one after it", x, 0, 3, "5/1 7/1 102/1 60/1 82/1");
    }

    private static void noiseBad() {
        Subject x = new Subject();
        for (int w : new int[] {-100, 100}) {
            dueNoiseBad(x, w);
        }
        for (int w : Call.FAR) {
            dueNoiseBad(x, w);
        }
        CHECKS.due(x, Call.noise(-99, 0, 1), -4);
        CHECKS.due(x, Call.noise(1, 0, -99), -4);
        CHECKS.due(x, Call.noise(99, 99, 99), -4);
        CHECKS.due(x, Call.noise(99, -99, 99), -4);
        x.advance();
        CHECKS.dueEstimate("the first noise", x, 0, 1, "0/1 0/1 2/1 0/1 2/1");
    }

    private static void dueNoiseBad(Subject x, int w) {
        CHECKS.due(x, Call.noise(w, 0, 1), -3);
        CHECKS.due(x, Call.noise(99, w, 99), -3);
        CHECKS.due(x, Call.noise(1, 0, w), -3);
    }

    private static void noiseFlat() {
        Subject x = new Subject();
        CHECKS.due(x, Call.noise(98, 97, 97), 0);
        int[][] flat = {{0, 0, 0}, {0, 0, 1}, {1, 0, 0}, {1, 1, 1}, {1, -1, 1}, {4, 6, 9}, {-1, 0, -1}, {-2, 1, -2},
            {1, 0, -1}, {98, 98, 98}, {98, -99, 98}};
        for (int[] q : flat) {
            CHECKS.due(x, Call.noise(q[0], q[1], q[2]), -4);
        }
        x.advance();
        CHECKS.dueEstimate("the noise that was taken", x, 0, 1, "0/1 0/1 99/1 97/1 98/1");
    }

    private static void observeAnswers() {
        for (int[] made : Runs.waysToMakeSix()) {
            Subject x = new Subject();
            int number = 0;
            for (int t = 0; t < made.length; t++) {
                for (int i = 0; i < made[t]; i++) {
                    CHECKS.due(x, Call.observe(1, t, 2, i), number);
                    number++;
                    CHECKS.due(x, Call.observations(), number);
                }
                x.advance();
            }
        }
    }

    private static void observeTaken() {
        for (int h0 = -9; h0 <= 9; h0++) {
            for (int h1 = -9; h1 <= 9; h1++) {
                Subject x = new Subject();
                x.initial(1, 10, 2, 1, 3);
                CHECKS.due(x, Call.observe(h0, h1, 1, 0), 0);
                String want = (-h0 - 10 * h1) + "/1 " + (2 * h0 * h0 + 2 * h0 * h1 + 3 * h1 * h1 + 1) + "/1";
                CHECKS.dueObservation("h0 " + h0 + ", h1 " + h1, x, 0, want);
            }
        }
        for (int r = 1; r <= 99; r++) {
            Subject x = new Subject();
            CHECKS.due(x, Call.observe(0, 0, r, 0), 0);
            CHECKS.dueObservation("r " + r, x, 0, "0/1 " + r + "/1");
        }
        for (int z = -999; z <= 999; z++) {
            Subject x = new Subject();
            CHECKS.due(x, Call.observe(1, 0, 1, z), 0);
            CHECKS.dueObservation("z " + z, x, 0, z + "/1 2/1");
            CHECKS.due("m0 by z " + z, x.number(1, 0, 0), z % 2 == 0 ? z / 2 + "/1" : z + "/2");
        }
    }

    private static void observeBad() {
        Subject x = new Subject();
        for (int w : new int[] {-10, 10, LEAST, LARGEST, 257, -255}) {
            CHECKS.due(x, Call.observe(w, 0, 1, 0), -3);
            CHECKS.due(x, Call.observe(0, w, 1, 0), -3);
        }
        for (int w : new int[] {0, 100, -1, -99, LEAST, LARGEST, 257, -255}) {
            CHECKS.due(x, Call.observe(0, 0, w, 0), -3);
        }
        for (int w : new int[] {-1000, 1000, LEAST, LARGEST, 65537, -65535}) {
            CHECKS.due(x, Call.observe(0, 0, 1, w), -3);
        }
        CHECKS.due(x, Call.observations(), 0);
        CHECKS.due(x, Call.observe(9, -9, 99, 999), 0);
        CHECKS.due(x, Call.observe(-9, 9, 1, -999), 1);
    }

    private static void observeFull() {
        for (int time = 0; time <= 3; time++) {
            Subject x = new Subject();
            for (int t = 0; t < time; t++) {
                x.advance();
            }
            for (int i = 0; i < 6; i++) {
                CHECKS.due(x, Call.observe(0, 1, 1, i), i);
            }
            String before = x.estimate(1, time);
            CHECKS.due(x, Call.observe(0, 1, 1, 0), -5);
            CHECKS.due(x, Call.observe(9, 9, 99, 999), -5);
            CHECKS.due(x, Call.observe(0, 0, 1, 0), -5);
            CHECKS.due(x, Call.observations(), 6);
            CHECKS.dueEstimate("still the same", x, 1, time, before);
            if (x.advance() > 0) {
                CHECKS.due(x, Call.observe(0, 1, 1, 0), -5);
            }
        }
    }

    private static void advanceGrows() {
        for (int[] made : Runs.waysToMakeSix()) {
            Subject x = new Subject();
            for (int t = 1; t <= 3; t++) {
                for (int i = 0; i < made[t - 1]; i++) {
                    x.observe(1, 2, 3, 4);
                }
                CHECKS.due(x, Call.advance(), t);
                CHECKS.due(x, Call.time(), t);
            }
        }
    }

    private static void advanceFull() {
        Subject x = new Subject();
        x.advance();
        x.advance();
        CHECKS.due(x, Call.advance(), 3);
        CHECKS.due(x, Call.advance(), -5);
        CHECKS.due(x, Call.advance(), -5);
        CHECKS.due(x, Call.time(), 3);
        CHECKS.dueEstimate("still the same", x, 0, 3, "0/1 0/1 4/1 0/1 4/1");
        CHECKS.due(x, Call.sign(0, 4, 0), -2);
        CHECKS.due(x, Call.observe(1, 0, 4, 8), 0);
        CHECKS.due(x, Call.advance(), -5);
        CHECKS.dueEstimate("still the same", x, 1, 3, "4/1 0/1 2/1 0/1 4/1");
        CHECKS.due(x, Call.initial(0, 0, 1, 0, 1), 0);
        CHECKS.due(x, Call.advance(), 1);
    }

    private static void time() {
        Subject x = new Subject();
        for (int t = 0; t <= 3; t++) {
            CHECKS.due(x, Call.time(), t);
            x.observe(1, 1, 1, 1);
            x.step(4, 0, 0, 0);
            x.noise(1, 1, 1);
            x.initial(0, 0, 0, 0, 0);
            CHECKS.due(x, Call.time(), t);
            x.advance();
        }
        CHECKS.due(x, Call.time(), 3);
        x.initial(0, 0, 1, 0, 1);
        CHECKS.due(x, Call.time(), 0);
    }

    private static void observations() {
        Subject x = new Subject();
        for (int i = 0; i < 6; i++) {
            CHECKS.due(x, Call.observations(), i);
            x.observe(1, 1, 0, 1);
            x.initial(0, 0, 0, 0, 0);
            x.advance();
            CHECKS.due(x, Call.observations(), i);
            x.observe(0, 0, 1, 1);
        }
        CHECKS.due(x, Call.observations(), 6);
        x.observe(1, 1, 1, 1);
        CHECKS.due(x, Call.observations(), 6);
        x.initial(0, 0, 1, 0, 1);
        CHECKS.due(x, Call.observations(), 0);
    }

    private static void sign() {
        for (int m = -99; m <= 99; m++) {
            Subject x = new Subject();
            x.initial(m, 0, 1, 0, 1);
            x.observe(1, 0, 99, 0);
            int want = m < 0 ? -1 : m > 0 ? 1 : 0;
            for (int kind = 0; kind <= 2; kind++) {
                CHECKS.due(x, Call.sign(kind, 0, 0), want);
                CHECKS.due(x, Call.sign(kind, 0, 1), 0);
                CHECKS.due(x, Call.sign(kind, 0, 2), 1);
                CHECKS.due(x, Call.sign(kind, 0, 3), 0);
                CHECKS.due(x, Call.sign(kind, 0, 4), 1);
            }
            CHECKS.due(x, Call.sign(3, 0, 0), -want);
            CHECKS.due(x, Call.sign(3, 0, 1), 1);
        }
        for (List<Call> run : Runs.large()) {
            Subject x = Runs.made(run);
            Reference reference = new Reference();
            Runs.make(reference, run);
            for (int[] n : Runs.allNumbers()) {
                CHECKS.due(x, Call.sign(n[0], n[1], n[2]), reference.sign(n[0], n[1], n[2]));
            }
        }
    }

    /** Every number next to those that there are: an object at time 1 with two observations. */
    private static int[][] nextToNumbers() {
        return new int[][] {{-1, 0, 0}, {4, 0, 0}, {0, -1, 0}, {0, 2, 0}, {1, -1, 0}, {1, 2, 0}, {2, -1, 0}, {2, 2, 0},
            {0, 0, -1}, {0, 0, 5}, {1, 1, -1}, {1, 1, 5}, {2, 0, -1}, {2, 0, 5}, {3, -1, 0}, {3, 2, 0}, {3, 0, -1},
            {3, 0, 2}, {3, 1, 4}, {LEAST, 0, 0}, {LARGEST, 0, 0}, {0, LEAST, 0}, {1, LARGEST, 0}, {2, LEAST, 0},
            {2, LARGEST, 0}, {0, 0, LEAST}, {1, 0, LARGEST}, {2, 0, LARGEST}, {3, LEAST, 0}, {3, LARGEST, 1},
            {3, 0, LEAST}, {3, 0, LARGEST}, {256, 0, 0}, {0, 256, 0}, {0, 0, 256}, {3, 256, 0}};
    }

    private static void signNone() {
        Subject x = new Subject();
        Runs.example(x);
        for (int[] n : nextToNumbers()) {
            CHECKS.due(x, Call.sign(n[0], n[1], n[2]), -2);
        }
    }

    private static void bits() {
        for (int m = -99; m <= 99; m++) {
            Subject x = new Subject();
            x.initial(m, 1, 1, 0, 1);
            CHECKS.due(x, Call.bits(0, 0, 0, false), Integer.toBinaryString(Math.abs(m)).length() - (m == 0 ? 1 : 0));
            CHECKS.due(x, Call.bits(0, 0, 0, true), 1);
        }
        for (int r = 1; r <= 99; r++) {
            Subject x = new Subject();
            x.observe(1, 0, r, 0);
            BigInteger upper = BigInteger.valueOf(r);
            BigInteger divisor = upper.gcd(BigInteger.valueOf(r + 1));
            CHECKS.due(x, Call.bits(1, 0, 2, false), upper.divide(divisor).bitLength());
            CHECKS.due(x, Call.bits(1, 0, 2, true), BigInteger.valueOf(r + 1).divide(divisor).bitLength());
        }
    }

    private static void bitsOfZero() {
        Subject x = new Subject();
        CHECKS.due(x, Call.bits(0, 0, 0, false), 0);
        CHECKS.due(x, Call.bits(0, 0, 0, true), 1);
        x.initial(-1, 3, 3, 0, 5);
        x.observe(1, 0, 3, 1);
        x.observe(0, 1, 7, 3);
        CHECKS.due(x, Call.bits(1, 0, 0, false), 0);
        CHECKS.due(x, Call.bits(1, 0, 0, true), 1);
        CHECKS.due(x, Call.bits(2, 0, 3, false), 0);
        CHECKS.due(x, Call.bits(3, 1, 0, false), 0);
        CHECKS.due(x, Call.bits(3, 1, 0, true), 1);
        CHECKS.due(x, Call.bits(1, 0, 2, false), 2);
    }

    private static void bitsAtTheEndsOfWords() {
        Set<Integer> uppers = new TreeSet<>();
        Set<Integer> lowers = new TreeSet<>();
        for (List<Call> run : Runs.large()) {
            Reference reference = new Reference();
            Runs.make(reference, run);
            Subject x = Runs.made(run);
            for (int[] n : Runs.allNumbers()) {
                Reference.Fraction number = reference.fraction(n[0], n[1], n[2]);
                CHECKS.due(x, Call.bits(n[0], n[1], n[2], false), number.n().abs().bitLength());
                CHECKS.due(x, Call.bits(n[0], n[1], n[2], true), number.d().bitLength());
                uppers.add(number.n().abs().bitLength());
                lowers.add(number.d().bitLength());
            }
        }
        List<Integer> ends = List.of(31, 32, 33, 63, 64, 65, 95, 96, 97);
        CHECKS.due("there were numerators of such lengths", uppers.containsAll(ends) ? 1 : 0, 1);
        CHECKS.due("there were denominators of such lengths", lowers.containsAll(ends) ? 1 : 0, 1);
    }

    private static void bitsNone() {
        Subject x = new Subject();
        Runs.example(x);
        for (int[] n : nextToNumbers()) {
            CHECKS.due(x, Call.bits(n[0], n[1], n[2], false), -2);
            CHECKS.due(x, Call.bits(n[0], n[1], n[2], true), -2);
        }
    }

    private static void word() {
        for (List<Call> run : Runs.large()) {
            Reference reference = new Reference();
            Runs.make(reference, run);
            for (int[] n : Runs.allNumbers()) {
                Reference.Fraction number = reference.fraction(n[0], n[1], n[2]);
                Subject x = Runs.made(run);
                CHECKS.due("numerator", x.part(n[0], n[1], n[2], false).toString(), number.n().abs().toString());
                CHECKS.due("denominator", x.part(n[0], n[1], n[2], true).toString(), number.d().toString());
            }
        }
    }

    private static void wordWithoutSign() {
        int high = 0;
        for (List<Call> run : Runs.large()) {
            Subject x = null;
            for (int[] n : Runs.allNumbers()) {
                if (x == null || x.callsLeft() < 6) {
                    x = Runs.made(run);
                }
                for (int k = 0; k < 3; k++) {
                    long upper = x.word(n[0], n[1], n[2], false, k);
                    long lower = x.word(n[0], n[1], n[2], true, k);
                    CHECKS.due("a word from 0", upper < 0 || lower < 0 ? 1 : 0, 0);
                    CHECKS.due("a word to 2^32 - 1", upper >> 32 != 0 || lower >> 32 != 0 ? 1 : 0, 0);
                    high += upper >= 1L << 31 ? 1 : 0;
                    high += lower >= 1L << 31 ? 1 : 0;
                }
            }
        }
        CHECKS.due("there were words with their highest bit", high > 0 ? 1 : 0, 1);
    }

    private static void noMoreWords() {
        Subject x = new Subject();
        x.initial(-99, 0, 3, 1, 2);
        for (int k = 0; k <= 31; k++) {
            CHECKS.due(x, Call.word(0, 0, 0, false, k), k == 0 ? 99 : 0);
            CHECKS.due(x, Call.word(0, 0, 0, true, k), k == 0 ? 1 : 0);
            CHECKS.due(x, Call.word(0, 0, 1, false, k), 0);
            CHECKS.due(x, Call.word(0, 0, 1, true, k), k == 0 ? 1 : 0);
        }
        for (List<Call> run : Runs.large()) {
            for (int[] n : Runs.allNumbers()) {
                Subject y = Runs.made(run);
                int upper = (y.bits(n[0], n[1], n[2], false) + 31) / 32;
                int lower = (y.bits(n[0], n[1], n[2], true) + 31) / 32;
                CHECKS.due("the last is there", y.word(n[0], n[1], n[2], true, lower - 1) > 0 ? 1 : 0, 1);
                for (int k = upper; k <= 31; k++) {
                    CHECKS.due(y, Call.word(n[0], n[1], n[2], false, k), 0);
                }
                for (int k = lower; k <= 31; k++) {
                    CHECKS.due(y, Call.word(n[0], n[1], n[2], true, k), 0);
                }
            }
        }
    }

    private static void wordNone() {
        Subject x = new Subject();
        Runs.example(x);
        for (int[] n : nextToNumbers()) {
            CHECKS.due(x, Call.word(n[0], n[1], n[2], false, 0), -2);
            CHECKS.due(x, Call.word(n[0], n[1], n[2], true, 31), -2);
        }
    }

    private static void wordBad() {
        Subject x = new Subject();
        Runs.example(x);
        int[][] numbers = {{0, 0, 0}, {1, 0, 1}, {2, 0, 2}, {2, 1, 4}, {3, 1, 0}, {3, 0, 1}};
        for (int[] n : numbers) {
            CHECKS.due("k 0", x.word(n[0], n[1], n[2], false, 0) > 0 ? 1 : 0, 1);
            CHECKS.due(x, Call.word(n[0], n[1], n[2], false, 31), 0);
            for (int k : new int[] {-1, 32, 33, -32, -31, 256, 1 << 27, LEAST, LARGEST}) {
                CHECKS.due(x, Call.word(n[0], n[1], n[2], false, k), -3);
                CHECKS.due(x, Call.word(n[0], n[1], n[2], true, k), -3);
            }
        }
        Subject zero = new Subject();
        CHECKS.due(zero, Call.word(0, 0, 0, false, 32), -3);
        CHECKS.due(zero, Call.word(0, 0, 0, false, -1), -3);
    }

    private static void compare() {
        Subject x = new Subject();
        Runs.example(x);
        for (int times = 1; times <= 20; times++) {
            CHECKS.due(x, Call.compare(1, 0, 0, 11 * times, 3 * times), 0);
            CHECKS.due(x, Call.compare(1, 0, 0, 11 * times + 1, 3 * times), -1);
            CHECKS.due(x, Call.compare(1, 0, 0, 11 * times - 1, 3 * times), 1);
            CHECKS.due(x, Call.compare(1, 0, 1, -4 * times, 3 * times), 0);
            CHECKS.due(x, Call.compare(1, 0, 1, -4 * times + 1, 3 * times), -1);
            CHECKS.due(x, Call.compare(1, 0, 1, -4 * times - 1, 3 * times), 1);
            CHECKS.due(x, Call.compare(3, 1, 0, 25 * times, 3 * times), 0);
            CHECKS.due(x, Call.compare(2, 0, 3, 4 * times, 29 * times + 1), 1);
            CHECKS.due(x, Call.compare(2, 0, 3, 4 * times, 29 * times - 1), -1);
        }
        CHECKS.due(x, Call.compare(1, 0, 0, 0, 1), 1);
        CHECKS.due(x, Call.compare(1, 0, 1, 0, 1), -1);
        CHECKS.due(x, Call.compare(1, 0, 1, 4, 3), -1);
        CHECKS.due(x, Call.compare(1, 0, 0, -11, 3), 1);
        Subject zero = new Subject();
        CHECKS.due(zero, Call.compare(0, 0, 0, 0, 1), 0);
        CHECKS.due(zero, Call.compare(0, 0, 0, 1, 1), -1);
        CHECKS.due(zero, Call.compare(0, 0, 0, -1, 1), 1);
    }

    private static void compareWithTheLargest() {
        Subject x = new Subject();
        Runs.example(x);
        CHECKS.due(x, Call.compare(1, 0, 0, LARGEST, 1), -1);
        CHECKS.due(x, Call.compare(1, 0, 0, LEAST, 1), 1);
        CHECKS.due(x, Call.compare(1, 0, 0, LARGEST, LARGEST), 1);
        CHECKS.due(x, Call.compare(1, 0, 0, LEAST, LARGEST), 1);
        CHECKS.due(x, Call.compare(1, 0, 1, LEAST, 1), 1);
        CHECKS.due(x, Call.compare(1, 0, 1, LEAST, LARGEST), -1);
        CHECKS.due(x, Call.compare(0, 0, 0, LARGEST, LARGEST), 0);
        CHECKS.due(x, Call.compare(0, 0, 0, LARGEST - 1, LARGEST), 1);
        CHECKS.due(x, Call.compare(0, 0, 0, LARGEST, LARGEST - 1), -1);
        CHECKS.due(x, Call.compare(0, 0, 1, LEAST, 1 << 30), 0);
        CHECKS.due(x, Call.compare(0, 0, 1, LEAST, (1 << 30) + 1), -1);
        CHECKS.due(x, Call.compare(0, 0, 1, LEAST, (1 << 30) - 1), 1);
        Subject zero = new Subject();
        CHECKS.due(zero, Call.compare(0, 0, 0, 0, LARGEST), 0);
        CHECKS.due(zero, Call.compare(0, 0, 0, 1, LARGEST), -1);
        CHECKS.due(zero, Call.compare(0, 0, 0, -1, LARGEST), 1);
        CHECKS.due(zero, Call.compare(0, 0, 0, LEAST, LARGEST), 1);
    }

    private static void compareNextToLargeNumbers() {
        for (List<Call> run : Runs.large()) {
            Reference reference = new Reference();
            Runs.make(reference, run);
            for (int[] n : Runs.allNumbers()) {
                Subject x = Runs.made(run);
                Reference.Fraction number = reference.fraction(n[0], n[1], n[2]);
                for (int q : new int[] {1, 2, 1 << 16, LARGEST - 1, LARGEST}) {
                    BigInteger near = number.n().multiply(BigInteger.valueOf(q)).divide(number.d());
                    for (int p : next(near)) {
                        CHECKS.due(x, Call.compare(n[0], n[1], n[2], p, q), reference.compare(n[0], n[1], n[2], p, q));
                    }
                }
            }
        }
    }

    /** The ints next to a whole number, and the ends of all ints. */
    private static int[] next(BigInteger near) {
        int middle = near.bitLength() < 31 ? near.intValue() : near.signum();
        return new int[] {middle - 1, middle, middle + 1, 0, LEAST, LARGEST};
    }

    private static void compareNone() {
        Subject x = new Subject();
        Runs.example(x);
        for (int[] n : nextToNumbers()) {
            CHECKS.due(x, Call.compare(n[0], n[1], n[2], 0, 1), -2);
            CHECKS.due(x, Call.compare(n[0], n[1], n[2], LEAST, LARGEST), -2);
        }
    }

    private static void compareBad() {
        Subject x = new Subject();
        Runs.example(x);
        int[][] numbers = {{0, 0, 0}, {1, 0, 1}, {2, 0, 2}, {2, 1, 4}, {3, 1, 0}, {3, 0, 1}};
        for (int[] n : numbers) {
            for (int p : new int[] {0, 1, -1, LEAST, LARGEST}) {
                CHECKS.due(x, Call.compare(n[0], n[1], n[2], p, 0), -3);
                CHECKS.due(x, Call.compare(n[0], n[1], n[2], p, -1), -3);
                CHECKS.due(x, Call.compare(n[0], n[1], n[2], p, -LARGEST), -3);
                CHECKS.due(x, Call.compare(n[0], n[1], n[2], p, LEAST), -3);
            }
            CHECKS.due(x, Call.compare(n[0], n[1], n[2], LEAST, 1), 1);
        }
    }
}
