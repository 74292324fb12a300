/** An object of the program as the tests use it: it counts its calls, as nothing is promised after the 512th. */
final class Subject implements Estimates {
    static final int MOST_CALLS = 512;

    private final ExactEstimates x = new ExactEstimates();
    private int calls;

    int callsLeft() {
        return MOST_CALLS - calls;
    }

    private ExactEstimates called() {
        if (calls == MOST_CALLS) {
            throw new IllegalStateException("a test makes more than 512 calls of one object");
        }
        calls++;
        return x;
    }

    @Override
    public int initial(int m0, int m1, int p00, int p01, int p11) {
        return called().initial(m0, m1, p00, p01, p11);
    }

    @Override
    public boolean step(int f00, int f01, int f10, int f11) {
        return called().step(f00, f01, f10, f11);
    }

    @Override
    public int noise(int q00, int q01, int q11) {
        return called().noise(q00, q01, q11);
    }

    @Override
    public int observe(int h0, int h1, int r, int z) {
        return called().observe(h0, h1, r, z);
    }

    @Override
    public int advance() {
        return called().advance();
    }

    @Override
    public int time() {
        return called().time();
    }

    @Override
    public int observations() {
        return called().observations();
    }

    @Override
    public int sign(int kind, int t, int e) {
        return called().sign(kind, t, e);
    }

    @Override
    public int bits(int kind, int t, int e, boolean lower) {
        return called().bits(kind, t, e, lower);
    }

    @Override
    public long word(int kind, int t, int e, boolean lower, int k) {
        return called().word(kind, t, e, lower, k);
    }

    @Override
    public int compare(int kind, int t, int e, int p, int q) {
        return called().compare(kind, t, e, p, q);
    }
}
