import java.math.BigInteger;

/** An exact fraction in lowest terms, below above 0. */
final class Frac implements Comparable<Frac> {
    static final Frac ZERO = new Frac(BigInteger.ZERO, BigInteger.ONE);
    static final Frac ONE = new Frac(BigInteger.ONE, BigInteger.ONE);

    final BigInteger above;
    final BigInteger below;

    private Frac(BigInteger above, BigInteger below) {
        BigInteger common = above.gcd(below);
        this.above = above.divide(common);
        this.below = below.divide(common);
    }

    static Frac of(long above, long below) {
        return new Frac(BigInteger.valueOf(above), BigInteger.valueOf(below));
    }

    Frac plus(Frac o) {
        return new Frac(above.multiply(o.below).add(o.above.multiply(below)), below.multiply(o.below));
    }

    Frac less(Frac o) {
        return new Frac(above.multiply(o.below).subtract(o.above.multiply(below)), below.multiply(o.below));
    }

    Frac times(Frac o) {
        return new Frac(above.multiply(o.above), below.multiply(o.below));
    }

    long part(int what) {
        return (what == 0 ? above : below).longValueExact();
    }

    @Override
    public int compareTo(Frac o) {
        return above.multiply(o.below).compareTo(o.above.multiply(below));
    }
}
