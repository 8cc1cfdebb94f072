import java.math.BigInteger;

/** An exact fraction of any size, for the oracle. */
final class Q implements Comparable<Q> {
    static final Q ZERO = of(0), ONE = of(1);
    final BigInteger up, low;

    private Q(BigInteger up, BigInteger low) {
        BigInteger g = up.gcd(low);
        if (low.signum() < 0) {
            g = g.negate();
        }
        this.up = up.divide(g);
        this.low = low.divide(g);
    }

    static Q of(long n) {
        return new Q(BigInteger.valueOf(n), BigInteger.ONE);
    }

    static Q of(BigInteger a, BigInteger b) {
        return new Q(a, b);
    }

    static Q tenths(long n) {
        return new Q(BigInteger.valueOf(n), BigInteger.TEN);
    }

    Q plus(Q o) {
        return new Q(up.multiply(o.low).add(o.up.multiply(low)), low.multiply(o.low));
    }

    Q minus(Q o) {
        return new Q(up.multiply(o.low).subtract(o.up.multiply(low)), low.multiply(o.low));
    }

    Q times(Q o) {
        return new Q(up.multiply(o.up), low.multiply(o.low));
    }

    Q over(Q o) {
        return new Q(up.multiply(o.low), low.multiply(o.up));
    }

    boolean isZero() {
        return up.signum() == 0;
    }

    long told(boolean upper) {
        return (upper ? up : low).longValueExact();
    }

    @Override
    public int compareTo(Q o) {
        return up.multiply(o.low).compareTo(o.up.multiply(low));
    }
}
