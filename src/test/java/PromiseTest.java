/** Each promise in ordinary runs, whose numbers were worked out apart from the program. */
public final class PromiseTest {
    private static final Checks CHECKS = new Checks();

    public static void main(String[] args) {
        aNewObject();
        initial();
        step();
        noise();
        observe();
        advance();
        timeAndObservations();
        sign();
        bits();
        word();
        compare();
        largeNumbers();
        CHECKS.end();
    }

    private static void due(String call, long got, long want) {
        CHECKS.due(call, got, want);
    }

    private static void dueEstimate(String what, Subject x, int kind, int t, String want) {
        CHECKS.dueEstimate(what, x, kind, t, want);
    }

    private static void dueObservation(String what, Subject x, int number, String want) {
        CHECKS.dueObservation(what, x, number, want);
    }

    /** The run that the document's formulas were worked out for by hand. */
    private static Subject example() {
        Subject x = new Subject();
        due("initial(1, -2, 4, 1, 3)", x.initial(1, -2, 4, 1, 3), 0);
        due("observe(1, 0, 2, 5)", x.observe(1, 0, 2, 5), 0);
        due("step(1, 1, 0, 1)", x.step(1, 1, 0, 1) ? 1 : 0, 1);
        due("noise(2, 1, 1)", x.noise(2, 1, 1), 0);
        due("advance()", x.advance(), 1);
        due("observe(0, 1, 1, 7)", x.observe(0, 1, 1, 7), 1);
        return x;
    }

    private static void dueExample(String what, Subject x) {
        due(what + ": time()", x.time(), 1);
        due(what + ": observations()", x.observations(), 2);
        dueEstimate(what, x, 0, 0, "1/1 -2/1 4/1 1/1 3/1");
        dueEstimate(what, x, 1, 0, "11/3 -4/3 4/3 1/3 17/6");
        dueEstimate(what, x, 2, 0, "123/29 103/29 38/29 4/29 34/29");
        dueEstimate(what, x, 0, 1, "7/3 -4/3 41/6 25/6 23/6");
        dueEstimate(what, x, 1, 1, "276/29 153/29 94/29 25/29 23/29");
        dueEstimate(what, x, 2, 1, "276/29 153/29 94/29 25/29 23/29");
        dueObservation(what, x, 0, "4/1 6/1");
        dueObservation(what, x, 1, "25/3 29/6");
    }

    private static void aNewObject() {
        Subject x = new Subject();
        due("new: time()", x.time(), 0);
        due("new: observations()", x.observations(), 0);
        for (int kind = 0; kind <= 2; kind++) {
            dueEstimate("new", x, kind, 0, "0/1 0/1 1/1 0/1 1/1");
            due("new: sign(" + kind + ", 1, 0)", x.sign(kind, 1, 0), -2);
        }
        due("new: sign(3, 0, 0)", x.sign(3, 0, 0), -2);
        x.observe(1, 0, 1, 2);
        x.observe(0, 1, 1, 4);
        x.advance();
        dueEstimate("the first step and noise", x, 0, 1, "1/1 2/1 3/2 0/1 3/2");

        Subject other = example();
        Subject untouched = new Subject();
        dueEstimate("beside another", untouched, 0, 0, "0/1 0/1 1/1 0/1 1/1");
        due("beside another: step", untouched.step(0, 0, 0, 0) ? 1 : 0, 1);
        due("beside another: noise", untouched.noise(99, 0, 99), 0);
        untouched.advance();
        dueExample("beside another", other);
    }

    private static void initial() {
        Subject x = example();
        due("initial(100, 0, 1, 0, 1)", x.initial(100, 0, 1, 0, 1), -3);
        due("initial(0, 0, 1, 1, 1)", x.initial(0, 0, 1, 1, 1), -4);
        due("initial(99, -99, 99, 98, 99)", x.initial(99, -99, 99, 98, 99), 0);
        due("after initial: time()", x.time(), 0);
        due("after initial: observations()", x.observations(), 0);
        due("after initial: sign(0, 1, 0)", x.sign(0, 1, 0), -2);
        due("after initial: sign(3, 0, 0)", x.sign(3, 0, 0), -2);
        for (int kind = 0; kind <= 2; kind++) {
            dueEstimate("after initial", x, kind, 0, "99/1 -99/1 99/1 98/1 99/1");
        }
        due("after initial: advance()", x.advance(), 1);
        dueEstimate("step and noise stay", x, 0, 1, "0/1 -99/1 396/1 198/1 100/1");
        due("initial(-99, 99, 1, -9, 82)", x.initial(-99, 99, 1, -9, 82), 0);
        dueEstimate("once more", x, 0, 0, "-99/1 99/1 1/1 -9/1 82/1");
        due("once more: time()", x.time(), 0);
        for (int i = 0; i < 6; i++) {
            due("once more: observe", x.observe(0, 0, 1, 0), i);
        }
        due("once more: a seventh", x.observe(0, 0, 1, 0), -5);
    }

    private static void step() {
        Subject x = new Subject();
        x.initial(5, 7, 2, 1, 3);
        due("step(3, -3, -3, 2)", x.step(3, -3, -3, 2) ? 1 : 0, 1);
        due("step(4, 0, 0, 0)", x.step(4, 0, 0, 0) ? 1 : 0, 0);
        dueEstimate("a step alone", x, 2, 0, "5/1 7/1 2/1 1/1 3/1");
        x.advance();
        dueEstimate("step(3, -3, -3, 2)", x, 0, 1, "-6/1 -1/1 28/1 -21/1 19/1");
        due("step(-3, 3, 3, -3)", x.step(-3, 3, 3, -3) ? 1 : 0, 1);
        dueEstimate("the step is from now on", x, 0, 1, "-6/1 -1/1 28/1 -21/1 19/1");
        x.advance();
        dueEstimate("step(-3, 3, 3, -3)", x, 0, 2, "15/1 -15/1 802/1 -801/1 802/1");
        due("step(0, 0, 0, 0)", x.step(0, 0, 0, 0) ? 1 : 0, 1);
        x.advance();
        dueEstimate("step(0, 0, 0, 0)", x, 0, 3, "0/1 0/1 1/1 0/1 1/1");
        x.observe(1, 1, 1, 50);
        dueEstimate("nothing is learnt through a step of zeros", x, 2, 0, "5/1 7/1 2/1 1/1 3/1");
        dueEstimate("nothing is learnt through a step of zeros", x, 2, 2, "15/1 -15/1 802/1 -801/1 802/1");
    }

    private static void noise() {
        Subject x = new Subject();
        due("noise(99, -98, 99)", x.noise(99, -98, 99), 0);
        due("noise(100, 0, 1)", x.noise(100, 0, 1), -3);
        due("noise(1, 1, 1)", x.noise(1, 1, 1), -4);
        dueEstimate("a noise alone", x, 1, 0, "0/1 0/1 1/1 0/1 1/1");
        x.advance();
        dueEstimate("noise(99, -98, 99)", x, 0, 1, "0/1 0/1 100/1 -98/1 100/1");
        due("noise(2, 1, 1)", x.noise(2, 1, 1), 0);
        dueEstimate("the noise is from now on", x, 0, 1, "0/1 0/1 100/1 -98/1 100/1");
        x.observe(1, 0, 50, 30);
        dueEstimate("smoothed by the noise of its own advance", x, 2, 0, "1/5 0/1 149/150 0/1 1/1");
        x.advance();
        dueEstimate("noise(2, 1, 1)", x, 0, 2, "20/1 -98/5 106/3 -95/3 2773/75");
    }

    private static void observe() {
        Subject x = example();
        dueExample("two observations", x);
        due("observe(0, 0, 5, 100)", x.observe(0, 0, 5, 100), 2);
        dueEstimate("a look at nothing", x, 1, 1, "276/29 153/29 94/29 25/29 23/29");
        dueObservation("a look at nothing", x, 2, "100/1 5/1");
        due("observe(9, -9, 99, 999)", x.observe(9, -9, 99, 999), 3);
        due("observe(-9, 9, 1, -999)", x.observe(-9, 9, 1, -999), 4);
        dueObservation("the edges", x, 3, "27864/29 8298/29");
        dueObservation("the edges", x, 4, "-153252/461 60619/922");
        due("observe(-9, -9, 1, 0)", x.observe(-9, -9, 1, 0), 5);
        due("observe, the seventh", x.observe(1, 1, 1, 1), -5);
        due("observe, the seventh, wrong too", x.observe(10, 1, 1, 1), -3);
        due("observe, the seventh, at another time", x.advance(), 2);
        due("observe, the seventh, at another time", x.observe(1, 1, 1, 1), -5);
        due("observations()", x.observations(), 6);

        Subject y = new Subject();
        y.observe(1, 0, 1, 4);
        y.advance();
        y.observe(1, 0, 1, 9);
        y.observe(1, 0, 1, 9);
        dueEstimate("an observation belongs to its time", y, 1, 0, "2/1 0/1 1/2 0/1 1/1");
        dueEstimate("an observation belongs to its time", y, 0, 1, "2/1 0/1 3/2 0/1 2/1");
        dueEstimate("one after the other", y, 1, 1, "29/4 0/1 3/8 0/1 2/1");
        dueEstimate("from all that was seen", y, 2, 0, "15/4 0/1 3/8 0/1 1/1");
    }

    private static void advance() {
        Subject x = new Subject();
        x.initial(3, 4, 1, 0, 1);
        x.step(0, 1, -1, 0);
        due("advance()", x.advance(), 1);
        due("advance()", x.advance(), 2);
        due("advance()", x.advance(), 3);
        due("advance() at 3", x.advance(), -5);
        due("advance() at 3", x.advance(), -5);
        due("time() at 3", x.time(), 3);
        dueEstimate("a turn", x, 0, 0, "3/1 4/1 1/1 0/1 1/1");
        dueEstimate("a turn", x, 0, 1, "4/1 -3/1 2/1 0/1 2/1");
        dueEstimate("a turn", x, 0, 2, "-3/1 -4/1 3/1 0/1 3/1");
        dueEstimate("a turn", x, 0, 3, "-4/1 3/1 4/1 0/1 4/1");
        due("observe at 3", x.observe(1, 0, 4, 4), 0);
        dueEstimate("seen at 3", x, 1, 3, "0/1 3/1 2/1 0/1 4/1");
        dueEstimate("seen from 0", x, 2, 0, "3/1 3/1 1/1 0/1 7/8");
        dueEstimate("seen from 2", x, 2, 2, "-3/1 -1/1 3/1 0/1 15/8");
        due("initial after 3", x.initial(0, 0, 1, 0, 1), 0);
        due("advance() anew", x.advance(), 1);
    }

    private static void timeAndObservations() {
        Subject x = new Subject();
        for (int t = 0; t <= 3; t++) {
            due("time()", x.time(), t);
            due("observations()", x.observations(), t);
            x.observe(1, 1, 1, 1);
            due("observations()", x.observations(), t + 1);
            due("time()", x.time(), t);
            x.advance();
        }
        x.observe(1, 1, 1, 1);
        x.observe(1, 1, 1, 1);
        x.observe(1, 1, 1, 1);
        due("observations() when full", x.observations(), 6);
        due("time() when full", x.time(), 3);
        x.initial(0, 0, 0, 0, 0);
        due("observations() after a refused initial", x.observations(), 6);
        due("time() after a refused initial", x.time(), 3);
        x.initial(0, 0, 1, 0, 1);
        due("observations() after initial", x.observations(), 0);
        due("time() after initial", x.time(), 0);
    }

    private static void sign() {
        Subject x = example();
        due("sign(0, 0, 0)", x.sign(0, 0, 0), 1);
        due("sign(0, 0, 1)", x.sign(0, 0, 1), -1);
        due("sign(1, 0, 1)", x.sign(1, 0, 1), -1);
        due("sign(2, 0, 1)", x.sign(2, 0, 1), 1);
        due("sign(3, 1, 0)", x.sign(3, 1, 0), 1);
        due("sign of no number", x.sign(3, 2, 0), -2);
        x.initial(0, 3, 2, -1, 1);
        due("sign of m0 = 0", x.sign(0, 0, 0), 0);
        due("sign of p01 = -1", x.sign(0, 0, 3), -1);
        x.observe(0, 1, 1, 3);
        due("sign of an innovation of 0", x.sign(3, 0, 0), 0);
        x.observe(0, 1, 1, 2);
        due("sign of an innovation of -1", x.sign(3, 1, 0), -1);
        due("sign of a spread", x.sign(3, 1, 1), 1);
    }

    private static void bits() {
        Subject x = example();
        due("bits of 123", x.bits(2, 0, 0, false), 7);
        due("bits of 29", x.bits(2, 0, 0, true), 5);
        due("bits of -4", x.bits(1, 0, 1, false), 3);
        due("bits of 3", x.bits(1, 0, 1, true), 2);
        due("bits of no number", x.bits(1, 2, 1, true), -2);
        x.initial(0, -64, 63, 0, 1);
        due("bits of 0", x.bits(0, 0, 0, false), 0);
        due("bits of 1, the denominator of 0", x.bits(0, 0, 0, true), 1);
        due("bits of -64", x.bits(0, 0, 1, false), 7);
        due("bits of 63", x.bits(0, 0, 2, false), 6);
        due("bits of 1", x.bits(0, 0, 4, false), 1);
    }

    private static void word() {
        Subject x = example();
        due("word 0 of -4", x.word(1, 0, 1, false, 0), 4);
        due("word 0 of 3", x.word(1, 0, 1, true, 0), 3);
        due("word 1 of 3", x.word(1, 0, 1, true, 1), 0);
        for (int k = 1; k <= 31; k++) {
            due("word " + k + " of 4", x.word(1, 0, 1, false, k), 0);
        }
        due("word 32", x.word(1, 0, 1, false, 32), -3);
        due("word of no number", x.word(1, 2, 1, false, 0), -2);
        x.initial(0, 0, 1, 0, 1);
        due("word of 0", x.word(0, 0, 0, false, 0), 0);
        due("word of the denominator of 0", x.word(0, 0, 0, true, 0), 1);
        x.observe(0, 0, 98, 0);
        due("word of the denominator of 0, later", x.word(1, 0, 0, true, 0), 1);
        due("lowest terms", x.word(1, 0, 2, true, 0), 1);
    }

    private static void compare() {
        Subject x = example();
        due("11/3 and 11/3", x.compare(1, 0, 0, 11, 3), 0);
        due("11/3 and 22/6", x.compare(1, 0, 0, 22, 6), 0);
        due("11/3 and 12/3", x.compare(1, 0, 0, 12, 3), -1);
        due("11/3 and 10/3", x.compare(1, 0, 0, 10, 3), 1);
        due("-4/3 and -4/3", x.compare(1, 0, 1, -4, 3), 0);
        due("-4/3 and -5/3", x.compare(1, 0, 1, -5, 3), 1);
        due("-4/3 and -1", x.compare(1, 0, 1, -1, 1), -1);
        due("-4/3 and the least", x.compare(1, 0, 1, Integer.MIN_VALUE, 1), 1);
        due("11/3 and the least", x.compare(1, 0, 0, Integer.MIN_VALUE, 1), 1);
        due("11/3 and the greatest", x.compare(1, 0, 0, Integer.MAX_VALUE, 1), -1);
        due("11/3 and nearly 1", x.compare(1, 0, 0, Integer.MAX_VALUE - 1, Integer.MAX_VALUE), 1);
        due("-4/3 and little more than -1", x.compare(1, 0, 1, Integer.MIN_VALUE, Integer.MAX_VALUE), -1);
        due("-2 and -2", x.compare(0, 0, 1, -2, 1), 0);
        due("29/6 and 29/6", x.compare(3, 1, 1, 29, 6), 0);
        due("11/3 and 11/0", x.compare(1, 0, 0, 11, 0), -3);
        due("no number and 1", x.compare(1, 2, 0, 1, 1), -2);
        x.initial(0, 0, 1, 0, 1);
        due("0 and 0", x.compare(0, 0, 0, 0, Integer.MAX_VALUE), 0);
        due("0 and 1 / the greatest", x.compare(0, 0, 0, 1, Integer.MAX_VALUE), -1);
        due("0 and -1 / the greatest", x.compare(0, 0, 0, -1, Integer.MAX_VALUE), 1);
    }

    private static void largeNumbers() {
        Subject x = new Subject();
        x.initial(97, -89, 98, -35, 95);
        x.observe(9, -7, 97, 998);
        x.observe(-8, 9, 89, -997);
        x.step(3, -2, 3, 3);
        x.noise(97, 13, 89);
        x.advance();
        x.observe(7, 9, 83, 991);
        x.observe(9, 8, 79, -983);
        x.step(-3, 2, 1, 3);
        x.noise(91, -17, 98);
        x.advance();
        x.observe(9, -5, 98, 977);
        x.step(3, 3, -2, 3);
        x.noise(99, 11, 97);
        x.advance();
        x.observe(8, 7, 95, -971);
        dueEstimate("large", x, 0, 3, "12766350071521288573511/3443682322987070761"
                + " 3901257117347301114601/3443682322987070761 11482063401420476730357/3443682322987070761"
                + " 4501911529953782249369/3443682322987070761 2165401126399519277570/3443682322987070761");
        dueEstimate("large", x, 1, 3, "13590492530313430565026481/79146938474117314058553"
                + " -8801599644262198832237281/26382312824705771352851"
                + " 66488005534071393357277676/1345497954059994338995401"
                + " -24770662139051062826062843/448499318019998112998467"
                + " 28540825516621241078791082/448499318019998112998467");
        dueEstimate("large", x, 2, 0, "5584702061976755323980044/79146938474117314058553"
                + " -3370115150654078108640782/79146938474117314058553"
                + " 2908365208071101601216989/1345497954059994338995401"
                + " 2609098038093122120682865/1345497954059994338995401"
                + " 3191290611952074019403195/1345497954059994338995401");
        dueEstimate("large", x, 2, 1, "-2539447811020661257450362/26382312824705771352851"
                + " 395331910798208833559428/4655702263183371415209"
                + " 3655217241857765689521808/1345497954059994338995401"
                + " -59939801976937706410277/26382312824705771352851 11246323096969918426645/4655702263183371415209");
        dueObservation("large", x, 5,
                "-132783415929221862099226/3443682322987070761 1345497954059994338995401/3443682322987070761");
        due("large: bits", x.bits(1, 3, 2, false), 86);
        due("large: bits", x.bits(1, 3, 2, true), 81);
        due("large: bits of a full second word", x.bits(3, 4, 1, false), 64);
        due("large: a word with its highest bit", x.word(2, 1, 3, true, 0), 4226790163L);
        due("large: just below 70.5612", x.compare(2, 0, 0, 705612, 10000), -1);
        due("large: just above 70.5611", x.compare(2, 0, 0, 705611, 10000), 1);
    }
}
