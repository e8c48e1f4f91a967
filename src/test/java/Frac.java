import java.math.BigInteger;

/** A fraction of any size in lowest terms, its lower number above 0. */
final class Frac implements Comparable<Frac> {
    static final Frac ZERO = of(0, 1);
    final BigInteger up;
    final BigInteger low;

    private Frac(BigInteger up, BigInteger low) {
        BigInteger divisor = up.gcd(low);
        if (low.signum() < 0) {
            divisor = divisor.negate();
        }
        this.up = up.divide(divisor);
        this.low = low.divide(divisor);
    }

    static Frac of(long up, long low) {
        return new Frac(BigInteger.valueOf(up), BigInteger.valueOf(low));
    }

    Frac plus(Frac o) {
        return new Frac(up.multiply(o.low).add(o.up.multiply(low)), low.multiply(o.low));
    }

    Frac minus(Frac o) {
        return plus(o.times(of(-1, 1)));
    }

    Frac times(Frac o) {
        return new Frac(up.multiply(o.up), low.multiply(o.low));
    }

    Frac by(Frac o) {
        return new Frac(up.multiply(o.low), low.multiply(o.up));
    }

    Frac times(long n) {
        return times(of(n, 1));
    }

    Frac by(long n) {
        return by(of(n, 1));
    }

    /** What is behind the point goes. */
    long cut() {
        return up.divide(low).longValueExact();
    }

    long pick(int what) {
        return (what == 0 ? up : low).longValueExact();
    }

    @Override
    public int compareTo(Frac o) {
        return up.multiply(o.low).compareTo(o.up.multiply(low));
    }
}
