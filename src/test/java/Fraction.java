import java.math.BigInteger;

/** An exact number, always without a common divisor and with a positive lower part. */
final class Fraction implements Comparable<Fraction> {
    static final Fraction ZERO = of(0, 1);
    final BigInteger above;
    final BigInteger below;

    private Fraction(BigInteger above, BigInteger below) {
        BigInteger divisor = above.gcd(below);
        if (below.signum() < 0) {
            divisor = divisor.negate();
        }
        this.above = above.divide(divisor);
        this.below = below.divide(divisor);
    }

    static Fraction of(long above, long below) {
        return new Fraction(BigInteger.valueOf(above), BigInteger.valueOf(below));
    }

    Fraction plus(Fraction other) {
        return new Fraction(above.multiply(other.below).add(other.above.multiply(below)),
            below.multiply(other.below));
    }

    Fraction minus(Fraction other) {
        return plus(other.times(of(-1, 1)));
    }

    Fraction times(Fraction other) {
        return new Fraction(above.multiply(other.above), below.multiply(other.below));
    }

    Fraction by(Fraction other) {
        return new Fraction(above.multiply(other.below), below.multiply(other.above));
    }

    @Override
    public int compareTo(Fraction other) {
        return above.multiply(other.below).compareTo(other.above.multiply(below));
    }

    @Override
    public boolean equals(Object other) {
        return other instanceof Fraction f && compareTo(f) == 0;
    }

    @Override
    public int hashCode() {
        return above.hashCode() * 31 + below.hashCode();
    }

    /** The number in parts of 256; it must be whole. */
    long parts() {
        return above.multiply(BigInteger.valueOf(256)).divide(below).longValueExact()
            + (above.multiply(BigInteger.valueOf(256)).mod(below).signum() == 0 ? 0 : 1L << 62);
    }
}
