import java.math.BigInteger;
import java.util.ArrayList;
import java.util.List;

/** A test of its own for each sentence of 'What it is' and 'Terms' that names a boundary. */
public final class TermsTest {
    private static final int MOST_OBSERVATIONS = 6;
    private static final int LAST_TIME = 3;
    private static final Checks CHECKS = new Checks();

    public static void main(String[] args) {
        CHECKS.sentence("What it is: An object is used for at most 512 calls after it has been made.",
                TermsTest::callsOfAnObject);
        CHECKS.sentence("Terms: TIMES are 0, 1, 2, 3; at first the time is 0.", TermsTest::times);
        CHECKS.sentence("Terms: At first there are no OBSERVATIONS.", TermsTest::atFirstNoObservations);
        CHECKS.sentence("Terms: There are at most 6 observations.", TermsTest::mostObservations);
        CHECKS.sentence("Terms: Observations are numbered 0, 1, .. in the order in which they are made.",
                TermsTest::numbersOfObservations);
        CHECKS.sentence("Terms: Each observation belongs to the time at which it was made.",
                TermsTest::timesOfObservations);
        CHECKS.sentence("Terms: A covariance is POSITIVE when p00 is greater than 0"
                + " and p00 * p11 is greater than p01 * p01.",
                TermsTest::positive);
        CHECKS.sentence("Terms: The STEP is at first 1, 0, 0, 1.", TermsTest::firstStep);
        CHECKS.sentence("Terms: The NOISE is at first 1, 0, 1.", TermsTest::firstNoise);
        CHECKS.sentence("Terms: The PREDICTED estimate of time 0 is the INITIAL one, at first 0, 0 and 1, 0, 1.",
                TermsTest::predictedOfTimeZero);
        CHECKS.sentence("Terms: The FILTERED estimate of a time is its predicted one (where nothing is seen).",
                TermsTest::filteredWithoutObservations);
        CHECKS.sentence("Terms: .. changed by each observation of that time, one after the other.",
                TermsTest::oneAfterTheOther);
        CHECKS.sentence("Terms: Its INNOVATION is y = z - h0 * m0 - h1 * m1.", TermsTest::innovation);
        CHECKS.sentence("Terms: Its SPREAD is s = h0 * h0 * p00 + 2 * h0 * h1 * p01 + h1 * h1 * p11 + r.",
                TermsTest::spread);
        CHECKS.sentence("Terms: m0 becomes m0 + k0 * y .. (nothing becomes other where h0 and h1 are 0).",
                TermsTest::lookAtNothing);
        CHECKS.sentence("Terms: .. with F the step as it was at the advance from t to t + 1.",
                TermsTest::stepOfTheAdvance);
        CHECKS.sentence("Terms: .. and Q the noise as it was at the advance from t to t + 1.",
                TermsTest::noiseOfTheAdvance);
        CHECKS.sentence("Terms: The mean is F m, and the covariance F P F' + Q.", TermsTest::predictedOfTheNextTime);
        CHECKS.sentence("Terms: The SMOOTHED estimate of the latest time is its filtered one.",
                TermsTest::smoothedOfTheLatest);
        CHECKS.sentence("Terms: The SMOOTHED estimate of an earlier time t is m + G (x - n), P + G (X - N) G'.",
                TermsTest::smoothedOfEarlierTimes);
        CHECKS.sentence("Terms: .. where nothing is seen later, the smoothed estimate of an earlier time"
                + " is its filtered one, for x is n and X is N.",
                TermsTest::smoothedWithoutLaterObservations);
        CHECKS.sentence("Terms: .. and G = P F' N^(-1), also for an F without an inverse.",
                TermsTest::smoothedThroughStepsWithoutInverse);
        CHECKS.sentence("Terms: FRACTIONS are told in lowest terms.", TermsTest::lowestTerms);
        CHECKS.sentence("Terms: The DENOMINATOR is greater than 0.", TermsTest::denominatorGreaterThanZero);
        CHECKS.sentence("Terms: .. the NUMERATOR without its sign.", TermsTest::numeratorWithoutSign);
        CHECKS.sentence("Terms: 0 has numerator 0 and denominator 1.", TermsTest::zero);
        CHECKS.sentence("Terms: KINDS of numbers: 0 predicted, 1 filtered, 2 smoothed, and kind 3.", TermsTest::kinds);
        CHECKS.sentence("Terms: .. each of a time t from 0 to the time now.", TermsTest::timesOfNumbers);
        CHECKS.sentence("Terms: .. with the ENTRIES e 0 .. 4: m0, m1, p00, p01, p11.", TermsTest::entriesOfEstimates);
        CHECKS.sentence("Terms: .. and kind 3, where t is the number of an observation.",
                TermsTest::numbersThatAreAsked);
        CHECKS.sentence("Terms: .. with the entries 0, its innovation, and 1, its spread.",
                TermsTest::entriesOfObservations);
        CHECKS.sentence("Terms: The constants: NONE = -2, BAD = -3, FLAT = -4, FULL = -5.", TermsTest::constants);
        CHECKS.end();
    }

    private static void callsOfAnObject() {
        Call[] last = {Call.initial(0, 0, 1, 0, 1), Call.initial(0, 0, 1, 1, 1), Call.step(3, 3, 3, 3),
            Call.step(4, 3, 3, 3), Call.noise(1, 0, 1), Call.noise(100, 0, 1), Call.observe(1, 1, 1, 1),
            Call.observe(1, 1, 0, 1), Call.advance(), Call.time(), Call.observations(), Call.sign(1, 0, 1),
            Call.sign(1, 2, 1), Call.bits(2, 0, 0, false), Call.word(2, 0, 0, true, 0), Call.word(2, 0, 0, true, 32),
            Call.compare(2, 0, 0, 123, 29)};
        int[] want = {0, -4, 1, 0, 0, -3, 2, -3, 2, 1, 2, -1, -2, 7, 29, -3, 0};
        for (int i = 0; i < last.length; i++) {
            Subject x = new Subject();
            while (x.callsLeft() > 20) {
                wear(x);
            }
            Runs.example(x);
            while (x.callsLeft() > 1) {
                CHECKS.due(x, Call.time(), 1);
            }
            CHECKS.due(x, last[i], want[i]);
        }
    }

    /** Fills an object, by ten calls, as far as it goes. */
    private static void wear(Subject x) {
        CHECKS.due(x, Call.initial(99, -99, 99, 98, 99), 0);
        for (int i = 0; i < LAST_TIME; i++) {
            CHECKS.due(x, Call.observe(9, 8, 97, 999), i);
            CHECKS.due(x, Call.advance(), i + 1);
        }
        for (int i = LAST_TIME; i < MOST_OBSERVATIONS; i++) {
            CHECKS.due(x, Call.observe(-8, 9, 89, -997), i);
        }
    }

    private static void times() {
        Subject x = new Subject();
        CHECKS.due(x, Call.time(), 0);
        for (int t = 1; t <= LAST_TIME; t++) {
            CHECKS.due(x, Call.advance(), t);
            CHECKS.due(x, Call.time(), t);
        }
        CHECKS.due(x, Call.advance(), -5);
        CHECKS.due(x, Call.time(), 3);
        CHECKS.dueEstimate("the last time", x, 0, 3, "0/1 0/1 4/1 0/1 4/1");
        CHECKS.dueEstimate("no time behind it", x, 0, 4, "none none none none none");
    }

    private static void atFirstNoObservations() {
        Subject x = new Subject();
        CHECKS.due(x, Call.observations(), 0);
        CHECKS.dueObservation("at first", x, 0, "none none");
        CHECKS.due(x, Call.observe(0, 0, 1, 0), 0);
    }

    private static void mostObservations() {
        for (int[] made : Runs.waysToMakeSix()) {
            Subject x = new Subject();
            makeSix(x, made);
            CHECKS.due(x, Call.observe(0, 0, 1, 0), -5);
            CHECKS.due(x, Call.observations(), 6);
            while (x.advance() > 0) {
                CHECKS.due(x, Call.observe(0, 0, 1, 0), -5);
            }
            CHECKS.due(x, Call.observations(), 6);
            CHECKS.dueObservation("there is no seventh", x, 6, "none none");
        }
    }

    /** Makes as many observations at each time as said, which are told apart by what they read and their noise. */
    private static void makeSix(Subject x, int[] made) {
        int number = 0;
        for (int t = 0; t < made.length; t++) {
            for (int i = 0; i < made[t]; i++) {
                CHECKS.due(x, Call.observe(0, 0, 90 + number, 990 + number), number);
                number++;
            }
            if (number < MOST_OBSERVATIONS) {
                CHECKS.due(x, Call.advance(), t + 1);
            }
        }
    }

    private static void numbersOfObservations() {
        for (int[] made : Runs.waysToMakeSix()) {
            Subject x = new Subject();
            makeSix(x, made);
            for (int i = 0; i < MOST_OBSERVATIONS; i++) {
                CHECKS.dueObservation("by its number", x, i, (990 + i) + "/1 " + (90 + i) + "/1");
            }
        }
    }

    private static void timesOfObservations() {
        String[] want = {"4/1 0/1 1/2 0/1 1/1", "16/3 0/1 2/3 0/1 2/1", "6/1 0/1 3/4 0/1 3/1", "32/5 0/1 4/5 0/1 4/1"};
        for (int own = 0; own <= LAST_TIME; own++) {
            Subject x = new Subject();
            for (int t = 0; t < own; t++) {
                x.advance();
            }
            CHECKS.due(x, Call.observe(1, 0, 1, 8), 0);
            for (int t = 0; t < own; t++) {
                String unseen = "0/1 0/1 " + (t + 1) + "/1 0/1 " + (t + 1) + "/1";
                CHECKS.dueEstimate("before its time", x, 1, t, unseen);
            }
            CHECKS.dueEstimate("at its time", x, 1, own, want[own]);
            CHECKS.dueEstimate("what was expected", x, 0, own, "0/1 0/1 " + (own + 1) + "/1 0/1 " + (own + 1) + "/1");
            if (x.advance() > 0) {
                CHECKS.dueEstimate("its time is past", x, 1, own, want[own]);
                CHECKS.due("expected of the next", x.number(0, own + 1, 0), x.number(1, own, 0));
            }
        }
    }

    private static void positive() {
        int[][] flat = {{0, 0, 0}, {0, 0, 1}, {0, 0, 99}, {0, 1, 99}, {-1, 0, -1}, {-2, 1, -1}, {-99, 0, -99},
            {-1, 0, 1}, {1, 0, -1}, {1, 0, 0}, {1, 1, 1}, {1, -1, 1}, {4, 6, 9}, {9, -6, 4}, {99, 99, 99},
            {99, -99, 99}, {98, 99, 99}, {9, 30, 99}, {1, 10, 99}, {-99, 98, -99}};
        int[][] positive = {{1, 0, 1}, {2, 1, 1}, {1, -1, 2}, {5, 3, 2}, {2, -3, 5}, {82, 9, 1}, {1, -9, 82},
            {99, 98, 98}, {99, -98, 99}, {99, 0, 1}, {1, 0, 99}, {99, 98, 99}, {65, -8, 1}};
        Subject x = new Subject();
        for (int[] p : flat) {
            CHECKS.due(x, Call.initial(0, 0, p[0], p[1], p[2]), -4);
            CHECKS.due(x, Call.noise(p[0], p[1], p[2]), -4);
        }
        for (int[] p : positive) {
            CHECKS.due(x, Call.initial(0, 0, p[0], p[1], p[2]), 0);
            CHECKS.due(x, Call.noise(p[0], p[1], p[2]), 0);
        }
        CHECKS.due("covariances of all that are sorted wrongly", sortedWrongly(), 0);
    }

    private static int sortedWrongly() {
        int wrong = 0;
        Subject x = new Subject();
        for (int p00 = -99; p00 <= 99; p00++) {
            for (int p01 = -99; p01 <= 99; p01++) {
                for (int p11 = -99; p11 <= 99; p11++) {
                    int want = p00 > 0 && p00 * p11 > p01 * p01 ? 0 : -4;
                    if (x.callsLeft() < 2) {
                        x = new Subject();
                    }
                    wrong += x.initial(0, 0, p00, p01, p11) == want && x.noise(p00, p01, p11) == want ? 0 : 1;
                }
            }
        }
        return wrong;
    }

    private static void firstStep() {
        Subject x = new Subject();
        x.initial(5, 7, 20, 10, 30);
        x.advance();
        CHECKS.dueEstimate("by the first step", x, 0, 1, "5/1 7/1 21/1 10/1 31/1");
    }

    private static void firstNoise() {
        Subject x = new Subject();
        x.step(0, 0, 0, 0);
        x.advance();
        CHECKS.dueEstimate("by the first noise alone", x, 0, 1, "0/1 0/1 1/1 0/1 1/1");
    }

    private static void predictedOfTimeZero() {
        Subject x = new Subject();
        CHECKS.dueEstimate("at first", x, 0, 0, "0/1 0/1 1/1 0/1 1/1");
        x.observe(9, 9, 1, 999);
        x.advance();
        x.observe(-9, 9, 1, 999);
        CHECKS.dueEstimate("whatever is seen", x, 0, 0, "0/1 0/1 1/1 0/1 1/1");
        x.initial(-5, 7, 4, -3, 5);
        CHECKS.dueEstimate("the initial one", x, 0, 0, "-5/1 7/1 4/1 -3/1 5/1");
        x.observe(9, 9, 1, 999);
        x.advance();
        CHECKS.dueEstimate("whatever is seen", x, 0, 0, "-5/1 7/1 4/1 -3/1 5/1");
    }

    private static void filteredWithoutObservations() {
        Subject x = new Subject();
        x.initial(-5, 7, 4, -3, 5);
        x.step(1, 1, 0, 1);
        CHECKS.dueEstimate("unseen", x, 1, 0, "-5/1 7/1 4/1 -3/1 5/1");
        x.advance();
        CHECKS.dueEstimate("unseen", x, 1, 1, "2/1 7/1 4/1 2/1 6/1");
        x.advance();
        CHECKS.dueEstimate("unseen", x, 1, 2, "9/1 7/1 15/1 8/1 7/1");
        x.advance();
        CHECKS.dueEstimate("unseen", x, 1, 3, "16/1 7/1 39/1 15/1 8/1");
    }

    private static void oneAfterTheOther() {
        Subject x = new Subject();
        x.observe(1, 0, 1, 4);
        CHECKS.dueEstimate("after one", x, 1, 0, "2/1 0/1 1/2 0/1 1/1");
        x.observe(1, 0, 1, 9);
        CHECKS.dueEstimate("after two", x, 1, 0, "13/3 0/1 1/3 0/1 1/1");
        x.observe(1, 1, 2, 11);
        CHECKS.dueEstimate("after three", x, 1, 0, "5/1 2/1 3/10 -1/10 7/10");
        CHECKS.dueObservation("the first stays as it was", x, 0, "4/1 2/1");
        CHECKS.dueObservation("the second finds the first", x, 1, "7/1 3/2");
        CHECKS.dueObservation("the third finds both", x, 2, "20/3 10/3");
    }

    private static void innovation() {
        dueInnovation(99, -99, Call.observe(-9, 9, 1, 999), "2781/1");
        dueInnovation(-99, 99, Call.observe(-9, 9, 1, -999), "-2781/1");
        dueInnovation(99, 99, Call.observe(9, 9, 1, 999), "-783/1");
        dueInnovation(99, 99, Call.observe(9, -9, 1, 0), "0/1");
        dueInnovation(99, 1, Call.observe(9, 0, 1, 891), "0/1");
        dueInnovation(1, 99, Call.observe(0, 9, 1, 891), "0/1");
        dueInnovation(1, 99, Call.observe(0, 9, 1, 890), "-1/1");
        dueInnovation(0, 0, Call.observe(9, 9, 1, -999), "-999/1");
    }

    private static void dueInnovation(int m0, int m1, Call look, String want) {
        Subject x = new Subject();
        x.initial(m0, m1, 3, -1, 2);
        CHECKS.due(x, look, 0);
        CHECKS.due("innovation of " + look.text() + " of " + m0 + " " + m1, x.number(3, 0, 0), want);
    }

    private static void spread() {
        dueSpread(99, 98, 99, Call.observe(9, 9, 99, 0), "32013/1");
        dueSpread(99, 98, 99, Call.observe(-9, -9, 99, 999), "32013/1");
        dueSpread(99, 98, 99, Call.observe(9, -9, 1, 0), "163/1");
        dueSpread(99, -98, 99, Call.observe(9, -9, 99, -999), "32013/1");
        dueSpread(99, -98, 99, Call.observe(9, 0, 1, 0), "8020/1");
        dueSpread(98, -98, 99, Call.observe(0, -9, 1, 0), "8020/1");
        dueSpread(99, 98, 99, Call.observe(0, 0, 1, 0), "1/1");
    }

    private static void dueSpread(int p00, int p01, int p11, Call look, String want) {
        Subject x = new Subject();
        x.initial(99, -99, p00, p01, p11);
        CHECKS.due(x, look, 0);
        CHECKS.due("spread of " + look.text() + " of " + p00 + " " + p01 + " " + p11, x.number(3, 0, 1), want);
    }

    private static void lookAtNothing() {
        for (int z = -999; z <= 999; z += 333) {
            for (int r = 1; r <= 99; r += 49) {
                Subject x = new Subject();
                x.initial(-5, 7, 4, -3, 5);
                CHECKS.due(x, Call.observe(0, 0, r, z), 0);
                CHECKS.dueEstimate("a look at nothing", x, 1, 0, "-5/1 7/1 4/1 -3/1 5/1");
                CHECKS.dueObservation("a look at nothing", x, 0, z + "/1 " + r + "/1");
            }
        }
    }

    private static void stepOfTheAdvance() {
        Subject x = new Subject();
        x.initial(5, 7, 1, 0, 1);
        x.step(-3, 1, 1, -3);
        x.step(2, 0, 0, 2);
        x.advance();
        x.step(3, 3, 3, 3);
        CHECKS.dueEstimate("by the step set last before", x, 0, 1, "10/1 14/1 5/1 0/1 5/1");
        x.observe(1, 0, 5, 20);
        CHECKS.dueEstimate("smoothed by the same step", x, 2, 0, "7/1 7/1 3/5 0/1 1/1");
        x.step(0, 0, 0, 0);
        x.advance();
        CHECKS.dueEstimate("a later advance has a step of its own", x, 2, 0, "7/1 7/1 3/5 0/1 1/1");
        CHECKS.dueEstimate("a later advance has a step of its own", x, 0, 2, "0/1 0/1 1/1 0/1 1/1");
        CHECKS.dueEstimate("the earlier one keeps its step", x, 0, 1, "10/1 14/1 5/1 0/1 5/1");
    }

    private static void noiseOfTheAdvance() {
        Subject x = new Subject();
        x.noise(99, 98, 99);
        x.noise(3, 0, 3);
        x.advance();
        x.noise(99, 0, 99);
        CHECKS.dueEstimate("by the noise set last before", x, 0, 1, "0/1 0/1 4/1 0/1 4/1");
        x.observe(1, 0, 4, 8);
        CHECKS.dueEstimate("smoothed by the same noise", x, 2, 0, "1/1 0/1 7/8 0/1 1/1");
        x.noise(6, 5, 6);
        x.advance();
        CHECKS.dueEstimate("a later advance has a noise of its own", x, 2, 0, "1/1 0/1 7/8 0/1 1/1");
        CHECKS.dueEstimate("a later advance has a noise of its own", x, 0, 2, "4/1 0/1 8/1 5/1 10/1");
        CHECKS.dueEstimate("the earlier one keeps its noise", x, 0, 1, "0/1 0/1 4/1 0/1 4/1");
    }

    private static void predictedOfTheNextTime() {
        duePredicted(Call.initial(99, 99, 99, 98, 99), Call.step(3, 3, 3, 3), Call.noise(99, 98, 99),
                "594/1 594/1 3645/1 3644/1 3645/1");
        duePredicted(Call.initial(99, 99, 99, 98, 99), Call.step(-3, -3, 3, 3), Call.noise(99, 98, 99),
                "-594/1 594/1 3645/1 -3448/1 3645/1");
        duePredicted(Call.initial(-99, 99, 99, -98, 99), Call.step(3, -3, -3, -3), Call.noise(99, -98, 99),
                "-594/1 0/1 3645/1 -98/1 117/1");
        duePredicted(Call.initial(5, 7, 2, 1, 3), Call.step(1, 2, 3, -1), Call.noise(1, 0, 1),
                "19/1 8/1 19/1 5/1 16/1");
        duePredicted(Call.initial(5, 7, 2, 1, 3), Call.step(0, 0, 0, 0), Call.noise(99, -98, 98),
                "0/1 0/1 99/1 -98/1 98/1");
        duePredicted(Call.initial(5, 7, 2, 1, 3), Call.step(0, 1, 0, 0), Call.noise(1, 0, 1), "7/1 0/1 4/1 0/1 1/1");
        duePredicted(Call.initial(5, 7, 2, 1, 3), Call.step(0, 0, 1, 0), Call.noise(1, 0, 1), "0/1 5/1 1/1 0/1 3/1");
    }

    private static void duePredicted(Call begin, Call step, Call noise, String want) {
        Subject x = new Subject();
        CHECKS.due(x, begin, 0);
        CHECKS.due(x, step, 1);
        CHECKS.due(x, noise, 0);
        CHECKS.due(x, Call.advance(), 1);
        CHECKS.dueEstimate(begin.text() + " " + step.text() + " " + noise.text(), x, 0, 1, want);
    }

    private static void smoothedOfTheLatest() {
        Subject x = new Subject();
        x.initial(1, -2, 4, 1, 3);
        CHECKS.dueEstimate("unseen", x, 2, 0, "1/1 -2/1 4/1 1/1 3/1");
        x.observe(1, 0, 2, 5);
        CHECKS.dueEstimate("seen", x, 2, 0, "11/3 -4/3 4/3 1/3 17/6");
        x.step(1, 1, 0, 1);
        x.noise(2, 1, 1);
        x.advance();
        CHECKS.dueEstimate("unseen at 1", x, 2, 1, "7/3 -4/3 41/6 25/6 23/6");
        x.observe(0, 1, 1, 7);
        CHECKS.dueEstimate("seen at 1", x, 2, 1, "276/29 153/29 94/29 25/29 23/29");
        x.step(0, 0, 0, 0);
        x.advance();
        x.advance();
        CHECKS.dueEstimate("unseen at 3", x, 2, 3, "0/1 0/1 2/1 1/1 1/1");
        x.observe(1, 0, 2, 8);
        CHECKS.dueEstimate("seen at 3", x, 2, 3, "4/1 2/1 1/1 1/2 3/4");
    }

    private static void smoothedOfEarlierTimes() {
        Subject x = new Subject();
        x.advance();
        x.advance();
        x.advance();
        x.observe(1, 0, 4, 8);
        CHECKS.dueEstimate("of the latest", x, 2, 3, "4/1 0/1 2/1 0/1 4/1");
        CHECKS.dueEstimate("one earlier", x, 2, 2, "3/1 0/1 15/8 0/1 3/1");
        CHECKS.dueEstimate("two earlier", x, 2, 1, "2/1 0/1 3/2 0/1 2/1");
        CHECKS.dueEstimate("three earlier", x, 2, 0, "1/1 0/1 7/8 0/1 1/1");
        Subject y = new Subject();
        Runs.example(y);
        CHECKS.dueEstimate("one earlier", y, 2, 0, "123/29 103/29 38/29 4/29 34/29");
    }

    private static void smoothedWithoutLaterObservations() {
        Subject x = new Subject();
        x.initial(1, -2, 4, 1, 3);
        x.observe(1, 0, 2, 5);
        x.step(3, -2, 1, 3);
        for (int t = 1; t <= LAST_TIME; t++) {
            x.advance();
            CHECKS.dueEstimate("unseen until " + t, x, 2, 0, "11/3 -4/3 4/3 1/3 17/6");
        }
        x.observe(0, 0, 1, 999);
        CHECKS.dueEstimate("a look at nothing", x, 2, 0, "11/3 -4/3 4/3 1/3 17/6");
    }

    private static void smoothedThroughStepsWithoutInverse() {
        Subject x = new Subject();
        x.step(1, 1, 1, 1);
        x.advance();
        x.observe(1, 0, 1, 8);
        CHECKS.dueEstimate("seen at 1", x, 1, 1, "6/1 4/1 3/4 1/2 2/1");
        CHECKS.dueEstimate("seen from 0", x, 2, 0, "2/1 2/1 3/4 -1/4 3/4");
        x.step(0, 0, 0, 0);
        x.advance();
        x.observe(9, 9, 1, 999);
        CHECKS.dueEstimate("nothing is learnt through a step of zeros", x, 2, 1, "6/1 4/1 3/4 1/2 2/1");
        CHECKS.dueEstimate("nor earlier", x, 2, 0, "2/1 2/1 3/4 -1/4 3/4");
    }

    private static void lowestTerms() {
        Subject halves = new Subject();
        halves.observe(2, 0, 4, 6);
        CHECKS.dueEstimate("a 2 goes out", halves, 1, 0, "3/2 0/1 1/2 0/1 1/1");
        // Looks at nothing leave all estimates as they are, but may leave their noise behind as common divisors.
        int[] blurs = {1, 2, 3, 32, 49, 64, 81, 96, 97, 98, 99};
        for (int r : blurs) {
            dueLowestTerms(r, r, r, r);
        }
        dueLowestTerms(64, 81, 49, 25);
        dueLowestTerms(99, 97, 95, 89);
        for (int r : blurs) {
            Subject x = new Subject();
            x.initial(3, -3, 9, 3, 6);
            for (int i = 0; i < MOST_OBSERVATIONS; i++) {
                x.observe(0, 0, r, 9 * i);
            }
            x.advance();
            CHECKS.dueEstimate("six divisors", x, 1, 0, "3/1 -3/1 9/1 3/1 6/1");
            CHECKS.dueEstimate("six divisors", x, 2, 0, "3/1 -3/1 9/1 3/1 6/1");
            CHECKS.dueEstimate("six divisors", x, 0, 1, "3/1 -3/1 10/1 3/1 7/1");
            CHECKS.dueObservation("six divisors", x, 5, "45/1 " + r + "/1");
        }
        for (List<Call> run : Runs.large()) {
            dueNoCommonDivisor(run);
        }
    }

    private static void dueLowestTerms(int... r) {
        Subject x = new Subject();
        x.initial(1, -2, 4, 1, 3);
        x.observe(0, 0, r[0], 999);
        x.observe(1, 0, 2, 5);
        x.observe(0, 0, r[1], -999);
        x.step(1, 1, 0, 1);
        x.noise(2, 1, 1);
        x.advance();
        x.observe(0, 0, r[2], 0);
        x.observe(0, 1, 1, 7);
        x.observe(0, 0, r[3], 17);
        CHECKS.dueEstimate("lowest terms", x, 1, 0, "11/3 -4/3 4/3 1/3 17/6");
        CHECKS.dueEstimate("lowest terms", x, 2, 0, "123/29 103/29 38/29 4/29 34/29");
        CHECKS.dueEstimate("lowest terms", x, 0, 1, "7/3 -4/3 41/6 25/6 23/6");
        CHECKS.dueEstimate("lowest terms", x, 1, 1, "276/29 153/29 94/29 25/29 23/29");
        CHECKS.dueObservation("lowest terms", x, 4, "25/3 29/6");
        CHECKS.dueObservation("lowest terms", x, 0, "999/1 " + r[0] + "/1");
        CHECKS.dueObservation("lowest terms", x, 5, "17/1 " + r[3] + "/1");
    }

    private static void dueNoCommonDivisor(List<Call> run) {
        for (int[] number : Runs.allNumbers()) {
            Subject x = Runs.made(run);
            BigInteger upper = x.part(number[0], number[1], number[2], false);
            BigInteger lower = x.part(number[0], number[1], number[2], true);
            CHECKS.due("common divisor of " + upper + " and " + lower, upper.gcd(lower).toString(), "1");
        }
    }

    private static void denominatorGreaterThanZero() {
        Subject x = new Subject();
        Runs.example(x);
        CHECKS.due(x, Call.word(1, 0, 1, true, 0), 3);
        CHECKS.due(x, Call.bits(1, 0, 1, true), 2);
        for (int k = 1; k <= 31; k++) {
            CHECKS.due(x, Call.word(1, 0, 1, true, k), 0);
        }
        for (List<Call> run : Runs.large()) {
            Subject y = Runs.made(run);
            for (int[] number : Runs.allNumbers()) {
                int bits = y.bits(number[0], number[1], number[2], true);
                CHECKS.due("a denominator has 1 to 128 bits", bits >= 1 && bits <= 128 ? 1 : 0, 1);
            }
        }
    }

    private static void numeratorWithoutSign() {
        Subject x = new Subject();
        Runs.example(x);
        CHECKS.due(x, Call.sign(1, 0, 1), -1);
        CHECKS.due(x, Call.word(1, 0, 1, false, 0), 4);
        CHECKS.due(x, Call.bits(1, 0, 1, false), 3);
        for (int k = 1; k <= 31; k++) {
            CHECKS.due(x, Call.word(1, 0, 1, false, k), 0);
        }
        x.initial(-99, -1, 5, -3, 2);
        CHECKS.dueEstimate("negative", x, 0, 0, "-99/1 -1/1 5/1 -3/1 2/1");
        x.observe(1, 0, 1, -999);
        CHECKS.dueObservation("negative", x, 0, "-900/1 6/1");
    }

    private static void zero() {
        Subject x = new Subject();
        x.initial(-1, 0, 3, 0, 5);
        dueZero(x, 0, 0, 1);
        dueZero(x, 0, 0, 3);
        x.observe(1, 0, 3, 1);
        dueZero(x, 1, 0, 0);
        dueZero(x, 2, 0, 0);
        dueZero(x, 1, 0, 3);
        x.observe(0, 1, 7, 0);
        dueZero(x, 3, 1, 0);
        x.step(0, 0, 0, 0);
        x.advance();
        dueZero(x, 0, 1, 0);
        dueZero(x, 2, 1, 1);
        dueZero(x, 2, 0, 0);
    }

    private static void dueZero(Subject x, int kind, int t, int e) {
        CHECKS.due(x, Call.sign(kind, t, e), 0);
        CHECKS.due(x, Call.word(kind, t, e, false, 0), 0);
        CHECKS.due(x, Call.bits(kind, t, e, false), 0);
        CHECKS.due(x, Call.word(kind, t, e, true, 0), 1);
        CHECKS.due(x, Call.bits(kind, t, e, true), 1);
        CHECKS.due(x, Call.word(kind, t, e, true, 1), 0);
    }

    /** Whether there is a number, by each of the four calls that tell of one. */
    private static void dueExists(Subject x, int kind, int t, int e, boolean want) {
        String number = kind + ", " + t + ", " + e;
        CHECKS.due("there is a sign of " + number, x.sign(kind, t, e) == -2 ? 0 : 1, want ? 1 : 0);
        CHECKS.due("there are bits of " + number, x.bits(kind, t, e, true) == -2 ? 0 : 1, want ? 1 : 0);
        CHECKS.due("there is a word of " + number, x.word(kind, t, e, false, 0) == -2 ? 0 : 1, want ? 1 : 0);
        CHECKS.due("there is an order of " + number, x.compare(kind, t, e, 1, 1) == -2 ? 0 : 1, want ? 1 : 0);
    }

    private static void kinds() {
        Subject x = new Subject();
        Runs.example(x);
        for (int kind = -3; kind <= 9; kind++) {
            dueExists(x, kind, 0, 0, kind >= 0 && kind <= 3);
        }
        for (int far : Call.FAR) {
            dueExists(x, far, 0, 0, false);
        }
        CHECKS.due("predicted", x.number(0, 0, 0), "1/1");
        CHECKS.due("filtered", x.number(1, 0, 0), "11/3");
        CHECKS.due("smoothed", x.number(2, 0, 0), "123/29");
        CHECKS.due("of an observation", x.number(3, 0, 0), "4/1");
    }

    private static void timesOfNumbers() {
        for (int now = 0; now <= LAST_TIME; now++) {
            for (int kind = 0; kind <= 2; kind++) {
                Subject x = new Subject();
                // Times that an earlier beginning came to are no times of this one.
                Runs.fill(x);
                x.initial(0, 0, 1, 0, 1);
                for (int t = 0; t < now; t++) {
                    x.advance();
                }
                for (int t = -2; t <= 6; t++) {
                    dueExists(x, kind, t, 0, t >= 0 && t <= now);
                }
                for (int far : Call.FAR) {
                    dueExists(x, kind, far, 4, false);
                }
            }
        }
    }

    private static void entriesOfEstimates() {
        for (int kind = 0; kind <= 2; kind++) {
            for (int t = 0; t <= 1; t++) {
                Subject x = new Subject();
                Runs.example(x);
                for (int e = -2; e <= 7; e++) {
                    dueExists(x, kind, t, e, e >= 0 && e <= 4);
                }
                for (int far : Call.FAR) {
                    dueExists(x, kind, t, far, false);
                }
            }
        }
        Subject y = new Subject();
        y.initial(11, 12, 15, 13, 14);
        CHECKS.due("m0", y.number(0, 0, 0), "11/1");
        CHECKS.due("m1", y.number(0, 0, 1), "12/1");
        CHECKS.due("p00", y.number(0, 0, 2), "15/1");
        CHECKS.due("p01", y.number(0, 0, 3), "13/1");
        CHECKS.due("p11", y.number(0, 0, 4), "14/1");
    }

    private static void numbersThatAreAsked() {
        for (int count = 0; count <= MOST_OBSERVATIONS; count++) {
            for (int e = 0; e <= 1; e++) {
                Subject x = new Subject();
                // Observations before the last beginning are no observations any more.
                Runs.fill(x);
                x.initial(0, 0, 1, 0, 1);
                for (int i = 0; i < count; i++) {
                    x.observe(1, 1, 1, 1);
                }
                for (int t = -2; t <= 8; t++) {
                    dueExists(x, 3, t, e, t >= 0 && t < count);
                }
                for (int far : Call.FAR) {
                    dueExists(x, 3, far, e, false);
                }
            }
        }
        Subject late = new Subject();
        late.advance();
        late.advance();
        late.observe(1, 1, 1, 1);
        dueExists(late, 3, 0, 0, true);
        dueExists(late, 3, 2, 0, false);
    }

    private static void entriesOfObservations() {
        Subject x = new Subject();
        Runs.example(x);
        for (int t = 0; t <= 1; t++) {
            for (int e = -2; e <= 6; e++) {
                dueExists(x, 3, t, e, e == 0 || e == 1);
            }
            for (int far : Call.FAR) {
                dueExists(x, 3, t, far, false);
            }
        }
        CHECKS.due("the innovation", x.number(3, 1, 0), "25/3");
        CHECKS.due("the spread", x.number(3, 1, 1), "29/6");
    }

    private static void constants() {
        List<Integer> constants = new ArrayList<>();
        constants.add(ExactEstimates.NONE);
        constants.add(ExactEstimates.BAD);
        constants.add(ExactEstimates.FLAT);
        constants.add(ExactEstimates.FULL);
        CHECKS.due("the constants", constants.toString(), "[-2, -3, -4, -5]");
    }
}
