/** Counts the answers that are not the ones that are due, for the tests of this project. */
final class Checks {
    private static final int MOST_SHOWN = 20;
    private String sentence = "";
    private int made;
    private int wrong;
    private int madeBefore;
    private int wrongBefore;

    /** What is looked at from here on belongs to this sentence of the document. */
    void sentence(String text) {
        endSentence();
        sentence = text;
    }

    void due(String call, long got, long want) {
        tally(got == want, call, Long.toString(got), Long.toString(want));
    }

    void due(String call, String got, String want) {
        tally(got.equals(want), call, got, want);
    }

    void due(Estimates x, Call call, long want) {
        due(call.text(), call.on(x), want);
    }

    void dueEstimate(String what, Estimates x, int kind, int t, String want) {
        due(what + ": estimate " + kind + " of time " + t, x.estimate(kind, t), want);
    }

    void dueObservation(String what, Estimates x, int number, String want) {
        due(what + ": observation " + number, x.observation(number), want);
    }

    private void tally(boolean right, String call, String got, String want) {
        made++;
        if (!right) {
            wrong++;
            if (wrong <= MOST_SHOWN) {
                System.out.println(call + " answered " + got + ", due is " + want);
            }
        }
    }

    private void endSentence() {
        if (!sentence.isEmpty()) {
            if (made == madeBefore) {
                wrong++;
            }
            System.out.println((wrong == wrongBefore ? "holds: " : "BROKEN: ") + sentence);
        }
        madeBefore = made;
        wrongBefore = wrong;
    }

    /** Ends the program, with exit code 1 if an answer was wrong or none was looked at. */
    void end() {
        endSentence();
        System.out.println(made + " answers looked at, " + wrong + " not as due");
        System.exit(wrong == 0 && made > 0 ? 0 : 1);
    }
}
