import java.math.BigInteger;

/** A fraction in lowest terms with a divisor above 0, of any size. */
final class Fraction implements Comparable<Fraction> {
    final BigInteger over;
    final BigInteger under;

    private Fraction(BigInteger over, BigInteger under) {
        BigInteger shared = over.gcd(under);
        if (under.signum() < 0) {
            shared = shared.negate();
        }
        this.over = over.divide(shared);
        this.under = under.divide(shared);
    }

    static Fraction of(long over, long under) {
        return new Fraction(BigInteger.valueOf(over), BigInteger.valueOf(under));
    }

    static Fraction of(long whole) {
        return of(whole, 1);
    }

    Fraction plus(Fraction f) {
        return new Fraction(over.multiply(f.under).add(f.over.multiply(under)),
                under.multiply(f.under));
    }

    Fraction times(Fraction f) {
        return new Fraction(over.multiply(f.over), under.multiply(f.under));
    }

    static Fraction middle(Fraction a, Fraction b) {
        return a.plus(b).times(of(1, 2));
    }

    @Override
    public int compareTo(Fraction f) {
        return over.multiply(f.under).compareTo(f.over.multiply(under));
    }

    @Override
    public boolean equals(Object o) {
        return o instanceof Fraction f && compareTo(f) == 0;
    }

    @Override
    public int hashCode() {
        return over.hashCode() * 31 + under.hashCode();
    }
}
