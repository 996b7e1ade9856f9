/** A fraction in lowest terms; overflow ends the test. */
record Fraction(long upper, long lower) {
    static final Fraction ZERO = new Fraction(0, 1);
    static final Fraction ONE = new Fraction(1, 1);

    static Fraction of(long upper, long lower) {
        long a = upper;
        long b = lower;
        while (b != 0) {
            long rest = a % b;
            a = b;
            b = rest;
        }
        return new Fraction(upper / a, lower / a);
    }

    Fraction plus(Fraction other) {
        long sum = Math.addExact(Math.multiplyExact(upper, other.lower), Math.multiplyExact(other.upper, lower));
        return of(sum, Math.multiplyExact(lower, other.lower));
    }

    Fraction times(long number) {
        return of(Math.multiplyExact(upper, number), lower);
    }

    Fraction by(long number) {
        return of(upper, Math.multiplyExact(lower, number));
    }

    int compare(Fraction other) {
        return Long.compare(Math.multiplyExact(upper, other.lower), Math.multiplyExact(other.upper, lower));
    }

    long part(int part) {
        return part == 0 ? upper : lower;
    }
}
