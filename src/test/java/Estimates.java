import java.math.BigInteger;

/** The document's face, as the program (by Subject) and the document written down word for word both have it. */
interface Estimates {
    int initial(int m0, int m1, int p00, int p01, int p11);

    boolean step(int f00, int f01, int f10, int f11);

    int noise(int q00, int q01, int q11);

    int observe(int h0, int h1, int r, int z);

    int advance();

    int time();

    int observations();

    int sign(int kind, int t, int e);

    int bits(int kind, int t, int e, boolean lower);

    long word(int kind, int t, int e, boolean lower, int k);

    int compare(int kind, int t, int e, int p, int q);

    /** A number as the face tells it by nine calls, such as -4/3. */
    default String number(int kind, int t, int e) {
        int sign = sign(kind, t, e);
        if (sign < -1) {
            return "none";
        }
        return (sign < 0 ? "-" : "") + part(kind, t, e, false) + "/" + part(kind, t, e, true);
    }

    /** No number has more than the four words that are asked for here. */
    default BigInteger part(int kind, int t, int e, boolean lower) {
        BigInteger part = BigInteger.ZERO;
        for (int k = 3; k >= 0; k--) {
            part = part.shiftLeft(32).add(BigInteger.valueOf(word(kind, t, e, lower, k)));
        }
        return part;
    }

    /** The five numbers of an estimate. */
    default String estimate(int kind, int t) {
        StringBuilder told = new StringBuilder(number(kind, t, 0));
        for (int e = 1; e <= 4; e++) {
            told.append(' ').append(number(kind, t, e));
        }
        return told.toString();
    }

    /** The innovation and the spread of an observation. */
    default String observation(int number) {
        return number(3, number, 0) + " " + number(3, number, 1);
    }
}
