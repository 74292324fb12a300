/** Counts the answers that are not the ones that are due, for the tests of this project. */
final class Checks {
    private static final int MOST_SHOWN = 20;
    private int made;
    private int wrong;

    void due(String call, long got, long want) {
        tally(got == want, call, Long.toString(got), Long.toString(want));
    }

    void due(String call, String got, String want) {
        tally(got.equals(want), call, got, want);
    }

    private void tally(boolean right, String call, String got, String want) {
        made++;
        if (!right) {
            wrong++;
            if (wrong <= MOST_SHOWN) {
                System.out.println(call + " answered " + got + ", due is " + want);
            }
        }
    }

    /** Ends the program, with exit code 1 if an answer was wrong or none was looked at. */
    void end() {
        System.out.println(made + " answers looked at, " + wrong + " not as due");
        System.exit(wrong == 0 && made > 0 ? 0 : 1);
    }
}
