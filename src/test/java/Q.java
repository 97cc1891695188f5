import java.math.BigInteger;

/** An exact fraction in least terms, for the oracle. */
final class Q implements Comparable<Q> {
    static final Q ZERO = of(0);
    static final Q ONE = of(1);
    final BigInteger above;
    final BigInteger below;

    private Q(BigInteger a, BigInteger b) {
        BigInteger g = a.gcd(b);
        if (b.signum() < 0) {
            g = g.negate();
        }
        above = a.divide(g);
        below = b.divide(g);
    }

    static Q of(long a) {
        return of(a, 1);
    }

    static Q of(long a, long b) {
        return new Q(BigInteger.valueOf(a), BigInteger.valueOf(b));
    }

    Q plus(Q o) {
        return new Q(above.multiply(o.below).add(o.above.multiply(below)), below.multiply(o.below));
    }

    Q minus(Q o) {
        return plus(new Q(o.above.negate(), o.below));
    }

    Q times(Q o) {
        return new Q(above.multiply(o.above), below.multiply(o.below));
    }

    Q by(Q o) {
        return new Q(above.multiply(o.below), below.multiply(o.above));
    }

    long part(int part) {
        return (part == 0 ? above : below).longValueExact();
    }

    int sign() {
        return above.signum();
    }

    @Override
    public int compareTo(Q o) {
        return minus(o).sign();
    }

    boolean same(Q o) {
        return compareTo(o) == 0;
    }
}
