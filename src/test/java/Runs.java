import java.util.ArrayList;
import java.util.List;

/** Runs of calls that several tests begin with. */
final class Runs {
    private static final int OF_INITIAL = 5;
    private static final int OF_ADVANCE = 7;
    private static final int OF_OBSERVATION = 4;
    private static final int ADVANCES = 3;

    private Runs() {
    }

    /** The run whose numbers were worked out by hand: to time 1, with an observation at each time. */
    static void example(Estimates x) {
        make(x, List.of(Call.initial(1, -2, 4, 1, 3), Call.observe(1, 0, 2, 5), Call.step(1, 1, 0, 1),
                Call.noise(2, 1, 1), Call.advance(), Call.observe(0, 1, 1, 7)));
    }

    /** To time 3 and six observations, so that there is no room for more. */
    static void fill(Estimates x) {
        for (int i = 0; i < 6; i++) {
            x.observe(1 + i, 2 - i, 3 + i, 40 + i);
            if (i < ADVANCES) {
                x.advance();
            }
        }
    }

    static Subject made(List<Call> run) {
        Subject x = new Subject();
        make(x, run);
        return x;
    }

    static void make(Estimates x, List<Call> run) {
        for (Call call : run) {
            if (call.on(x) < 0) {
                throw new IllegalStateException(call.text() + " is refused in a run that other calls build on");
            }
        }
    }

    /** Every way to spread six observations over the four times, as how many are made at each. */
    static List<int[]> waysToMakeSix() {
        List<int[]> ways = new ArrayList<>();
        for (int a = 0; a <= 6; a++) {
            for (int b = 0; a + b <= 6; b++) {
                for (int c = 0; a + b + c <= 6; c++) {
                    ways.add(new int[] {a, b, c, 6 - a - b - c});
                }
            }
        }
        return ways;
    }

    /** Kind, time and entry of every number that there is at time 3 with six observations. */
    static List<int[]> allNumbers() {
        List<int[]> numbers = new ArrayList<>();
        for (int kind = 0; kind <= 3; kind++) {
            for (int t = 0; t < (kind == 3 ? 6 : 4); t++) {
                for (int e = 0; e < (kind == 3 ? 2 : 5); e++) {
                    numbers.add(new int[] {kind, t, e});
                }
            }
        }
        return numbers;
    }

    /**
     * Runs to time 3 with six observations that were looked for. Together they hold numerators and denominators
     * of each of 31, 32, 33, 63, 64, 65, 95, 96 and 97 bits. The first holds a numerator of 104 bits and a
     * denominator of 97, the largest that were found.
     */
    static List<List<Call>> large() {
        return List.of(
                run(new int[] {1, 1, 2, 2}, -99, 99, 99, 0, 97,
                        3, -3, -3, 3, 99, 97, 97, 3, -3, 3, -3, 99, -98, 99, -3, 3, -3, -3, 99, 0, 99,
                        9, 9, 97, -999, 9, 9, 97, -999, 9, -9, 89, 999,
                        -9, -9, 97, 999, 9, 9, 97, -999, -9, 9, 98, 999),
                run(new int[] {1, 1, 2, 2}, -99, 81, 99, 0, 99,
                        -3, -3, -3, -3, 99, -98, 99, 3, -3, 3, -3, 99, -98, 99, 3, -3, 3, 3, 99, 0, 99,
                        -9, 8, 98, -999, 9, 9, 98, 999, 9, -9, 97, 999,
                        -9, -9, 97, 325, 8, 9, 98, 415, -9, 9, 98, -999),
                run(new int[] {1, 2, 0, 3}, -99, 99, 99, 0, 98,
                        -3, 3, 3, -3, 99, 98, 98, 3, -3, 3, -3, 99, -13, 99, -3, -3, -3, 3, 99, 2, 99,
                        9, 9, 15, -999, -9, 8, 99, -999, 9, 9, 98, -999,
                        9, 9, 98, -999, -9, 9, 91, 999, -9, -9, 97, 999),
                run(new int[] {1, 1, 1, 3}, 99, 99, 99, 1, 99,
                        3, 3, -2, -1, 99, 98, 99, 3, -3, 3, -3, 98, -98, 99, -3, 3, 3, -3, 98, 98, 99,
                        -9, 9, 97, 999, -9, -9, 94, -999, 9, 9, 98, -999,
                        -9, 9, 98, 999, -8, 9, 99, 999, -9, -9, 79, 999),
                run(new int[] {1, 1, 3, 1}, -99, -99, 99, 0, 99,
                        -3, 2, -3, 3, 99, -98, 99, -3, 3, 3, -3, 99, 98, 99, -3, 2, -3, -3, 99, -98, 99,
                        -9, -9, 98, 999, -9, -9, 98, 999, -9, 9, 97, 999,
                        8, 9, 99, -999, 9, 9, 97, -999, -8, 9, 99, -999),
                run(new int[] {2, 2, 1, 1}, 97, -89, 98, -35, 95,
                        3, -2, 3, 3, 97, 13, 89, -3, 2, 1, 3, 91, -17, 98, 3, 3, -2, 3, 99, 11, 97,
                        9, -7, 97, 998, -8, 9, 89, -997, 7, 9, 83, 991,
                        9, 8, 79, -983, 9, -5, 98, 977, 8, 7, 95, -971));
    }

    /** A run of the numbers of initial, of three times step and noise, and of six observations. */
    private static List<Call> run(int[] made, int... n) {
        List<Call> run = new ArrayList<>();
        run.add(Call.initial(n[0], n[1], n[2], n[3], n[4]));
        int observation = OF_INITIAL + ADVANCES * OF_ADVANCE;
        for (int t = 0; t < made.length; t++) {
            for (int i = 0; i < made[t]; i++) {
                run.add(Call.observe(n[observation], n[observation + 1], n[observation + 2], n[observation + 3]));
                observation += OF_OBSERVATION;
            }
            if (t < ADVANCES) {
                int advance = OF_INITIAL + t * OF_ADVANCE;
                run.add(Call.step(n[advance], n[advance + 1], n[advance + 2], n[advance + 3]));
                run.add(Call.noise(n[advance + 4], n[advance + 5], n[advance + 6]));
                run.add(Call.advance());
            }
        }
        return run;
    }
}
