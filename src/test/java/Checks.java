/** Counts the answers that are not the ones that are due, for the tests of this project. */
final class Checks {
    private static final int MOST_SHOWN = 10;
    private int made;
    private int wrong;
    private int shown;

    /** The test of one sentence of the document; what it throws breaks the sentence too. */
    void sentence(String text, Runnable test) {
        int madeBefore = made;
        int wrongBefore = wrong;
        shown = 0;
        try {
            test.run();
        } catch (RuntimeException thrown) {
            due(text, thrown.toString(), "nothing thrown");
        }
        if (made == madeBefore) {
            due(text, "no answer looked at", "some");
        }
        System.out.println((wrong == wrongBefore ? "holds: " : "BROKEN: ") + text);
    }

    void due(String call, long got, long want) {
        tally(got == want, call, Long.toString(got), Long.toString(want));
    }

    void due(String call, String got, String want) {
        tally(got.equals(want), call, got, want);
    }

    void due(Estimates x, Call call, long want) {
        due(call.text(), call.on(x), want);
    }

    void dueEstimate(String what, Estimates x, int kind, int t, String want) {
        due(what + ": estimate " + kind + " of time " + t, x.estimate(kind, t), want);
    }

    void dueObservation(String what, Estimates x, int number, String want) {
        due(what + ": observation " + number, x.observation(number), want);
    }

    private void tally(boolean right, String call, String got, String want) {
        made++;
        if (!right) {
            wrong++;
            if (shown < MOST_SHOWN) {
                shown++;
                System.out.println(call + " answered " + got + ", due is " + want);
            }
        }
    }

    /** Ends the program, with exit code 1 if an answer was wrong or none was looked at. */
    void end() {
        System.out.println(made + " answers looked at, " + wrong + " not as due");
        System.exit(wrong == 0 && made > 0 ? 0 : 1);
    }
}
