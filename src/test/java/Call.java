import java.util.function.ToLongFunction;

/** A call of the face, to be made on any object; the answer true counts 1, false 0. */
record Call(String text, ToLongFunction<Estimates> made) {
    /** Ints far from all that is taken, some of which would be taken by their lowest bits alone. */
    static final int[] FAR = {Integer.MIN_VALUE, Integer.MIN_VALUE + 1, -65535, -255, 257, 65537, 1 << 24 | 1,
        Integer.MAX_VALUE};

    long on(Estimates x) {
        return made.applyAsLong(x);
    }

    private static String text(String name, Object... arguments) {
        StringBuilder text = new StringBuilder(name).append('(');
        for (int i = 0; i < arguments.length; i++) {
            text.append(i == 0 ? "" : ", ").append(arguments[i]);
        }
        return text.append(')').toString();
    }

    static Call initial(int m0, int m1, int p00, int p01, int p11) {
        return new Call(text("initial", m0, m1, p00, p01, p11), x -> x.initial(m0, m1, p00, p01, p11));
    }

    static Call step(int f00, int f01, int f10, int f11) {
        return new Call(text("step", f00, f01, f10, f11), x -> x.step(f00, f01, f10, f11) ? 1 : 0);
    }

    static Call noise(int q00, int q01, int q11) {
        return new Call(text("noise", q00, q01, q11), x -> x.noise(q00, q01, q11));
    }

    static Call observe(int h0, int h1, int r, int z) {
        return new Call(text("observe", h0, h1, r, z), x -> x.observe(h0, h1, r, z));
    }

    static Call advance() {
        return new Call("advance()", Estimates::advance);
    }

    static Call time() {
        return new Call("time()", Estimates::time);
    }

    static Call observations() {
        return new Call("observations()", Estimates::observations);
    }

    static Call sign(int kind, int t, int e) {
        return new Call(text("sign", kind, t, e), x -> x.sign(kind, t, e));
    }

    static Call bits(int kind, int t, int e, boolean lower) {
        return new Call(text("bits", kind, t, e, lower), x -> x.bits(kind, t, e, lower));
    }

    static Call word(int kind, int t, int e, boolean lower, int k) {
        return new Call(text("word", kind, t, e, lower, k), x -> x.word(kind, t, e, lower, k));
    }

    static Call compare(int kind, int t, int e, int p, int q) {
        return new Call(text("compare", kind, t, e, p, q), x -> x.compare(kind, t, e, p, q));
    }
}
