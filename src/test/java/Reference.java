import java.math.BigInteger;
import java.util.ArrayList;
import java.util.List;

/**
 * The document written down word for word with fractions of any size. It shares no formula with the program:
 * the smoothed estimates are worked out by G = P F' N^(-1), each time anew.
 */
final class Reference implements Estimates {
    static final int NONE = -2;
    static final int BAD = -3;
    static final int FLAT = -4;
    static final int FULL = -5;

    record Fraction(BigInteger n, BigInteger d) implements Comparable<Fraction> {
        static Fraction of(BigInteger n, BigInteger d) {
            BigInteger g = n.gcd(d).multiply(BigInteger.valueOf(d.signum()));
            return new Fraction(n.divide(g), d.divide(g));
        }

        static Fraction of(long n) {
            return new Fraction(BigInteger.valueOf(n), BigInteger.ONE);
        }

        Fraction plus(Fraction x) {
            return of(n.multiply(x.d).add(x.n.multiply(d)), d.multiply(x.d));
        }

        Fraction minus(Fraction x) {
            return plus(new Fraction(x.n.negate(), x.d));
        }

        Fraction times(Fraction x) {
            return of(n.multiply(x.n), d.multiply(x.d));
        }

        Fraction over(Fraction x) {
            return of(n.multiply(x.d), d.multiply(x.n));
        }

        @Override
        public int compareTo(Fraction x) {
            return n.multiply(x.d).compareTo(x.n.multiply(d));
        }
    }

    /** A matrix of two rows and two columns. */
    record Matrix(Fraction a, Fraction b, Fraction c, Fraction d) {
        static Matrix of(int a, int b, int c, int d) {
            return new Matrix(Fraction.of(a), Fraction.of(b), Fraction.of(c), Fraction.of(d));
        }

        Matrix times(Matrix x) {
            return new Matrix(a.times(x.a).plus(b.times(x.c)), a.times(x.b).plus(b.times(x.d)),
                    c.times(x.a).plus(d.times(x.c)), c.times(x.b).plus(d.times(x.d)));
        }

        Matrix plus(Matrix x) {
            return new Matrix(a.plus(x.a), b.plus(x.b), c.plus(x.c), d.plus(x.d));
        }

        Matrix minus(Matrix x) {
            return new Matrix(a.minus(x.a), b.minus(x.b), c.minus(x.c), d.minus(x.d));
        }

        Matrix exchanged() {
            return new Matrix(a, c, b, d);
        }

        Matrix inverse() {
            Fraction det = a.times(d).minus(b.times(c));
            Fraction zero = Fraction.of(0);
            return new Matrix(d.over(det), zero.minus(b).over(det), zero.minus(c).over(det), a.over(det));
        }

        Fraction row0(Fraction x, Fraction y) {
            return a.times(x).plus(b.times(y));
        }

        Fraction row1(Fraction x, Fraction y) {
            return c.times(x).plus(d.times(y));
        }
    }

    record Estimate(Fraction m0, Fraction m1, Matrix p) {
        Fraction entry(int e) {
            return switch (e) {
                case 0 -> m0;
                case 1 -> m1;
                case 2 -> p.a();
                case 3 -> p.b();
                default -> p.d();
            };
        }
    }

    private Matrix step = Matrix.of(1, 0, 0, 1);
    private Matrix noise = Matrix.of(1, 0, 0, 1);
    private final List<Estimate> predicted = new ArrayList<>();
    private final List<Estimate> filtered = new ArrayList<>();
    private final List<Matrix> steps = new ArrayList<>();
    private final List<Fraction[]> seen = new ArrayList<>();

    Reference() {
        begin(0, 0, 1, 0, 1);
    }

    private void begin(int m0, int m1, int p00, int p01, int p11) {
        predicted.clear();
        filtered.clear();
        steps.clear();
        seen.clear();
        predicted.add(new Estimate(Fraction.of(m0), Fraction.of(m1), Matrix.of(p00, p01, p01, p11)));
        filtered.add(predicted.get(0));
    }

    private static boolean outside(int low, int high, int... xs) {
        for (int x : xs) {
            if (x < low || x > high) {
                return true;
            }
        }
        return false;
    }

    @Override
    public int initial(int m0, int m1, int p00, int p01, int p11) {
        if (outside(-99, 99, m0, m1, p00, p01, p11)) {
            return BAD;
        }
        if (p00 <= 0 || p00 * p11 <= p01 * p01) {
            return FLAT;
        }
        begin(m0, m1, p00, p01, p11);
        return 0;
    }

    @Override
    public boolean step(int f00, int f01, int f10, int f11) {
        if (outside(-3, 3, f00, f01, f10, f11)) {
            return false;
        }
        step = Matrix.of(f00, f01, f10, f11);
        return true;
    }

    @Override
    public int noise(int q00, int q01, int q11) {
        if (outside(-99, 99, q00, q01, q11)) {
            return BAD;
        }
        if (q00 <= 0 || q00 * q11 <= q01 * q01) {
            return FLAT;
        }
        noise = Matrix.of(q00, q01, q01, q11);
        return 0;
    }

    @Override
    public int observe(int h0, int h1, int r, int z) {
        if (outside(-9, 9, h0, h1) || outside(1, 99, r) || outside(-999, 999, z)) {
            return BAD;
        }
        if (seen.size() == 6) {
            return FULL;
        }
        Estimate old = filtered.get(time());
        Matrix p = old.p();
        Fraction a = Fraction.of(h0);
        Fraction b = Fraction.of(h1);
        Fraction y = Fraction.of(z).minus(a.times(old.m0())).minus(b.times(old.m1()));
        Fraction s = a.times(a).times(p.a()).plus(Fraction.of(2).times(a).times(b).times(p.b()))
                .plus(b.times(b).times(p.d())).plus(Fraction.of(r));
        Fraction k0 = p.row0(a, b).over(s);
        Fraction k1 = p.row1(a, b).over(s);
        Fraction p01 = p.b().minus(k0.times(k1).times(s));
        Matrix now = new Matrix(p.a().minus(k0.times(k0).times(s)), p01, p01, p.d().minus(k1.times(k1).times(s)));
        filtered.set(time(), new Estimate(old.m0().plus(k0.times(y)), old.m1().plus(k1.times(y)), now));
        seen.add(new Fraction[] {y, s});
        return seen.size() - 1;
    }

    @Override
    public int advance() {
        if (time() == 3) {
            return FULL;
        }
        Estimate old = filtered.get(time());
        Estimate next = new Estimate(step.row0(old.m0(), old.m1()), step.row1(old.m0(), old.m1()),
                step.times(old.p()).times(step.exchanged()).plus(noise));
        steps.add(step);
        predicted.add(next);
        filtered.add(next);
        return time();
    }

    @Override
    public int time() {
        return predicted.size() - 1;
    }

    @Override
    public int observations() {
        return seen.size();
    }

    @Override
    public int sign(int kind, int t, int e) {
        Fraction x = fraction(kind, t, e);
        return x == null ? NONE : x.n().signum();
    }

    @Override
    public int bits(int kind, int t, int e, boolean lower) {
        Fraction x = fraction(kind, t, e);
        return x == null ? NONE : part(x, lower).bitLength();
    }

    @Override
    public long word(int kind, int t, int e, boolean lower, int k) {
        Fraction x = fraction(kind, t, e);
        if (x == null) {
            return NONE;
        }
        if (k < 0 || k > 31) {
            return BAD;
        }
        return part(x, lower).shiftRight(32 * k).and(BigInteger.valueOf(0xFFFFFFFFL)).longValueExact();
    }

    @Override
    public int compare(int kind, int t, int e, int p, int q) {
        Fraction x = fraction(kind, t, e);
        if (x == null) {
            return NONE;
        }
        return q < 1 ? BAD : x.compareTo(Fraction.of(BigInteger.valueOf(p), BigInteger.valueOf(q)));
    }

    private static BigInteger part(Fraction x, boolean lower) {
        return lower ? x.d() : x.n().abs();
    }

    /** The number, or null when there is none. */
    Fraction fraction(int kind, int t, int e) {
        if (kind == 3) {
            return outside(0, seen.size() - 1, t) || outside(0, 1, e) ? null : seen.get(t)[e];
        }
        if (outside(0, 2, kind) || outside(0, time(), t) || outside(0, 4, e)) {
            return null;
        }
        return switch (kind) {
            case 0 -> predicted.get(t).entry(e);
            case 1 -> filtered.get(t).entry(e);
            default -> smoothed(t).entry(e);
        };
    }

    private Estimate smoothed(int t) {
        Estimate own = filtered.get(t);
        if (t == time()) {
            return own;
        }
        Estimate next = predicted.get(t + 1);
        Estimate later = smoothed(t + 1);
        Matrix g = own.p().times(steps.get(t).exchanged()).times(next.p().inverse());
        Fraction x = later.m0().minus(next.m0());
        Fraction y = later.m1().minus(next.m1());
        Matrix p = own.p().plus(g.times(later.p().minus(next.p())).times(g.exchanged()));
        return new Estimate(own.m0().plus(g.row0(x, y)), own.m1().plus(g.row1(x, y)), p);
    }
}
