import java.util.ArrayList;
import java.util.List;
import java.util.function.Function;

/**
 * 'A call that is refused changes nothing; where several refusals that a call names fit, the one named first is
 * the answer', for each call that can be refused, in each state that refuses in its own way.
 */
public final class RefusalTest {
    private static final int NONE = -2;
    private static final int BAD = -3;
    private static final int FLAT = -4;
    private static final int FULL = -5;
    private static final Checks CHECKS = new Checks();

    /** A call with the refusal that is due. */
    private record Refused(Call call, int answer) {
    }

    /** The calls that lead to a state from a new object, and the time and observations that it has come to. */
    private record State(String name, List<Call> calls, int time, int count) {
    }

    private static final List<State> STATES = states();
    /** What is done before an object is looked at: what a refused call changed might show but later. */
    private static final List<List<Call>> AFTERWARDS = List.of(
            List.of(),
            List.of(Call.observe(2, -3, 5, 70), Call.advance(), Call.observe(1, 4, 3, -20)),
            List.of(Call.initial(2, 3, 5, 1, 4), Call.observe(2, -3, 5, 70), Call.advance(),
                    Call.observe(1, 4, 3, -20)));

    public static void main(String[] args) {
        changesNothing("initial", state -> initialRefused());
        changesNothing("step", state -> stepRefused());
        changesNothing("noise", state -> noiseRefused());
        changesNothing("observe", RefusalTest::observeRefused);
        changesNothing("advance", RefusalTest::advanceRefused);
        changesNothing("sign", state -> askRefused("sign", state));
        changesNothing("bits", state -> askRefused("bits", state));
        changesNothing("word", state -> askRefused("word", state));
        changesNothing("compare", state -> askRefused("compare", state));
        CHECKS.sentence("Terms: The refusal named first is the answer: initial, BAD before FLAT.",
                RefusalTest::firstOfInitial);
        CHECKS.sentence("Terms: The refusal named first is the answer: noise, BAD before FLAT.",
                RefusalTest::firstOfNoise);
        CHECKS.sentence("Terms: The refusal named first is the answer: observe, BAD before FULL.",
                RefusalTest::firstOfObserve);
        CHECKS.sentence("Terms: The refusal named first is the answer: word, NONE before BAD.",
                RefusalTest::firstOfWord);
        CHECKS.sentence("Terms: The refusal named first is the answer: compare, NONE before BAD.",
                RefusalTest::firstOfCompare);
        CHECKS.end();
    }

    private static List<State> states() {
        List<Call> changed = List.of(Call.step(2, -1, 1, 3), Call.noise(7, -2, 5));
        List<Call> midst = joined(List.of(Call.initial(1, -2, 4, 1, 3), Call.observe(1, 0, 2, 5), Call.step(1, 1, 0, 1),
                Call.noise(2, 1, 1), Call.advance(), Call.observe(0, 1, 1, 7)), changed);
        List<Call> six = new ArrayList<>();
        List<Call> late = new ArrayList<>();
        List<Call> full = new ArrayList<>();
        for (int i = 0; i < 6; i++) {
            six.add(Call.observe(i - 2, 3 - i, 2 + i, 10 * i));
            full.add(Call.observe(i - 3, 2 - i, 1 + i, 20 * i));
            if (i < 3) {
                late.add(Call.advance());
                full.add(Call.step(1, i, -i, 2));
                full.add(Call.advance());
            }
        }
        return List.of(new State("new", List.of(), 0, 0), new State("changed", changed, 0, 0),
                new State("in the midst", midst, 1, 2), new State("six observations", joined(six, changed), 0, 6),
                new State("time 3", joined(late, changed), 3, 0), new State("full", joined(full, changed), 3, 6),
                new State("anew", joined(full, List.of(Call.initial(5, -7, 9, 2, 8))), 0, 0));
    }

    private static List<Call> joined(List<Call> first, List<Call> then) {
        List<Call> all = new ArrayList<>(first);
        all.addAll(then);
        return all;
    }

    private static void changesNothing(String name, Function<State, List<Refused>> refusals) {
        CHECKS.sentence("Terms: A call that is refused changes nothing: " + name + ".", () -> {
            for (State state : STATES) {
                dueUnchanged(state, refusals.apply(state));
            }
        });
    }

    private static void dueUnchanged(State state, List<Refused> refusals) {
        for (List<Call> afterwards : AFTERWARDS) {
            String untouched = look(Runs.made(state.calls), afterwards);
            for (Refused refused : refusals) {
                Subject x = Runs.made(state.calls);
                CHECKS.due(x, refused.call, refused.answer);
                String text = state.name + ", after refused " + refused.call.text();
                CHECKS.due(text, look(x, afterwards), untouched);
            }
        }
    }

    /** All answers of an object, short enough for the 512 calls that it has. */
    private static String look(Subject x, List<Call> afterwards) {
        StringBuilder seen = new StringBuilder();
        for (Call call : afterwards) {
            seen.append(call.on(x)).append(' ');
        }
        seen.append("time ").append(x.time()).append(" observations ").append(x.observations());
        for (int[] n : Runs.allNumbers()) {
            seen.append(' ').append(x.sign(n[0], n[1], n[2])).append(':').append(x.word(n[0], n[1], n[2], false, 0));
            seen.append('/').append(x.word(n[0], n[1], n[2], true, 0));
        }
        return seen.toString();
    }

    private static void add(List<Refused> all, Call call, int answer) {
        all.add(new Refused(call, answer));
    }

    /** The ints next outside a range, and far ones. */
    private static List<Integer> outside(int low, int high) {
        List<Integer> wrong = new ArrayList<>(List.of(low - 1, high + 1));
        for (int far : Call.FAR) {
            if (far < low || far > high) {
                wrong.add(far);
            }
        }
        return wrong;
    }

    private static List<Refused> initialRefused() {
        List<Refused> all = new ArrayList<>();
        for (int w : outside(-99, 99)) {
            add(all, Call.initial(w, 8, 3, 1, 2), BAD);
            add(all, Call.initial(8, w, 3, 1, 2), BAD);
            add(all, Call.initial(8, 8, w, 1, 2), BAD);
            add(all, Call.initial(8, 8, 3, w, 2), BAD);
            add(all, Call.initial(8, 8, 3, 1, w), BAD);
        }
        add(all, Call.initial(8, 8, 0, 0, 0), FLAT);
        add(all, Call.initial(8, 8, 1, 1, 1), FLAT);
        add(all, Call.initial(8, 8, -1, 0, -1), FLAT);
        return all;
    }

    private static List<Refused> stepRefused() {
        List<Refused> all = new ArrayList<>();
        for (int w : outside(-3, 3)) {
            add(all, Call.step(w, 3, -2, 1), 0);
            add(all, Call.step(3, w, -2, 1), 0);
            add(all, Call.step(3, -2, w, 1), 0);
            add(all, Call.step(3, -2, 1, w), 0);
        }
        return all;
    }

    private static List<Refused> noiseRefused() {
        List<Refused> all = new ArrayList<>();
        for (int w : outside(-99, 99)) {
            add(all, Call.noise(w, 4, 9), BAD);
            add(all, Call.noise(9, w, 9), BAD);
            add(all, Call.noise(9, 4, w), BAD);
        }
        add(all, Call.noise(0, 0, 0), FLAT);
        add(all, Call.noise(9, 9, 9), FLAT);
        add(all, Call.noise(-9, 4, -9), FLAT);
        return all;
    }

    private static List<Refused> observeRefused(State state) {
        List<Refused> all = new ArrayList<>();
        for (int w : outside(-9, 9)) {
            add(all, Call.observe(w, 1, 2, 30), BAD);
            add(all, Call.observe(1, w, 2, 30), BAD);
        }
        for (int w : outside(1, 99)) {
            add(all, Call.observe(1, 1, w, 30), BAD);
        }
        for (int w : outside(-999, 999)) {
            add(all, Call.observe(1, 1, 2, w), BAD);
        }
        if (state.count == 6) {
            add(all, Call.observe(1, 1, 2, 30), FULL);
            add(all, Call.observe(0, 0, 99, -999), FULL);
        }
        return all;
    }

    private static List<Refused> advanceRefused(State state) {
        return state.time == 3 ? List.of(new Refused(Call.advance(), FULL)) : List.of();
    }

    /** Numbers next to those of the state, and wrong words and fractions of a number that all states have. */
    private static List<Refused> askRefused(String name, State state) {
        List<Refused> all = new ArrayList<>();
        int later = state.time + 1;
        int[][] none = {{-1, 0, 0}, {4, 0, 0}, {0, -1, 0}, {0, later, 0}, {1, later, 1}, {1, 4, 0}, {2, -1, 4},
            {2, later, 2}, {2, 4, 0}, {0, 0, -1}, {1, 0, 5}, {2, 0, 5}, {3, -1, 0}, {3, state.count, 0},
            {3, state.count, 1}, {3, 6, 1}, {3, 0, 2}, {3, 5, -1}, {Integer.MAX_VALUE, Integer.MIN_VALUE, 9}};
        for (int[] n : none) {
            add(all, ask(name, n[0], n[1], n[2], 0, 1), NONE);
        }
        for (int w : outside(0, 31)) {
            if (name.equals("word")) {
                add(all, ask(name, 2, 0, 2, w, 1), BAD);
            }
        }
        for (int w : new int[] {0, -1, -2, -7, Integer.MIN_VALUE}) {
            if (name.equals("compare")) {
                add(all, ask(name, 2, 0, 2, 3, w), BAD);
            }
        }
        return all;
    }

    private static Call ask(String name, int kind, int t, int e, int k, int q) {
        return switch (name) {
            case "sign" -> Call.sign(kind, t, e);
            case "bits" -> Call.bits(kind, t, e, k > 0);
            case "word" -> Call.word(kind, t, e, false, k);
            default -> Call.compare(kind, t, e, k, q);
        };
    }

    private static void dueInEveryState(Call call, int want) {
        for (State state : STATES) {
            CHECKS.due(Runs.made(state.calls), call, want);
        }
    }

    private static void firstOfInitial() {
        for (int w : outside(-99, 99)) {
            dueInEveryState(Call.initial(w, 0, 1, 1, 1), BAD);
            dueInEveryState(Call.initial(0, w, 0, 0, 0), BAD);
            dueInEveryState(Call.initial(0, 0, w, 0, 0), BAD);
            dueInEveryState(Call.initial(0, 0, 1, w, 1), BAD);
            dueInEveryState(Call.initial(0, 0, 0, 0, w), BAD);
            dueInEveryState(Call.initial(w, w, w, w, w), BAD);
        }
    }

    private static void firstOfNoise() {
        for (int w : outside(-99, 99)) {
            dueInEveryState(Call.noise(w, 0, 0), BAD);
            dueInEveryState(Call.noise(1, w, 1), BAD);
            dueInEveryState(Call.noise(0, 0, w), BAD);
            dueInEveryState(Call.noise(w, w, w), BAD);
        }
    }

    private static void firstOfObserve() {
        for (State state : STATES) {
            if (state.count < 6) {
                continue;
            }
            Subject x = Runs.made(state.calls);
            CHECKS.due(x, Call.observe(1, 1, 2, 30), FULL);
            for (int w : outside(-9, 9)) {
                CHECKS.due(x, Call.observe(w, 1, 2, 30), BAD);
                CHECKS.due(x, Call.observe(1, w, 2, 30), BAD);
            }
            for (int w : outside(1, 99)) {
                CHECKS.due(x, Call.observe(1, 1, w, 30), BAD);
            }
            for (int w : outside(-999, 999)) {
                CHECKS.due(x, Call.observe(1, 1, 2, w), BAD);
                CHECKS.due(x, Call.observe(w, w, w, w), BAD);
            }
        }
    }

    private static void firstOfWord() {
        for (int k : outside(0, 31)) {
            dueInEveryState(Call.word(-1, 0, 0, false, k), NONE);
            dueInEveryState(Call.word(4, 0, 0, true, k), NONE);
            dueInEveryState(Call.word(0, 4, 0, false, k), NONE);
            dueInEveryState(Call.word(1, -1, 0, true, k), NONE);
            dueInEveryState(Call.word(2, 0, 5, false, k), NONE);
            dueInEveryState(Call.word(3, 6, 0, true, k), NONE);
            dueInEveryState(Call.word(3, 0, 2, false, k), NONE);
            dueInEveryState(Call.word(2, 0, 4, false, k), BAD);
        }
    }

    private static void firstOfCompare() {
        for (int q : new int[] {0, -1, -7, Integer.MIN_VALUE}) {
            dueInEveryState(Call.compare(-1, 0, 0, 1, q), NONE);
            dueInEveryState(Call.compare(4, 0, 0, 1, q), NONE);
            dueInEveryState(Call.compare(0, 4, 0, 0, q), NONE);
            dueInEveryState(Call.compare(1, -1, 0, 1, q), NONE);
            dueInEveryState(Call.compare(2, 0, 5, -1, q), NONE);
            dueInEveryState(Call.compare(3, 6, 0, 1, q), NONE);
            dueInEveryState(Call.compare(3, 0, 2, 1, q), NONE);
            dueInEveryState(Call.compare(2, 0, 4, 0, q), BAD);
        }
    }
}
