import java.math.BigInteger;

/** A fraction in lowest terms, of any size. */
record Ratio(BigInteger above, BigInteger below) {
    static final Ratio ZERO = of(0, 1);
    static final Ratio ONE = of(1, 1);

    Ratio {
        BigInteger divisor = above.gcd(below);
        if (below.signum() < 0) divisor = divisor.negate();
        above = above.divide(divisor);
        below = below.divide(divisor);
    }

    static Ratio of(long above, long below) {
        return new Ratio(BigInteger.valueOf(above), BigInteger.valueOf(below));
    }

    Ratio plus(Ratio o) {
        return new Ratio(above.multiply(o.below).add(o.above.multiply(below)), below.multiply(o.below));
    }

    Ratio less(Ratio o) {
        return plus(new Ratio(o.above.negate(), o.below));
    }

    Ratio times(Ratio o) {
        return new Ratio(above.multiply(o.above), below.multiply(o.below));
    }

    Ratio by(Ratio o) {
        return new Ratio(above.multiply(o.below), below.multiply(o.above));
    }

    boolean isZero() {
        return above.signum() == 0;
    }

    int against(Ratio o) {
        return above.multiply(o.below).compareTo(o.above.multiply(below));
    }

    long part(int part) {
        if (part == 0) return above.longValueExact();
        return part == 1 ? below.longValueExact() : ReorderMind.NO;
    }

    /** What solves the rows, the last number of each being on the right; the rows must have one solution. */
    static Ratio[] solved(Ratio[][] rows, int unknowns) {
        for (int k = 0; k < unknowns; k++) {
            int pivot = k;
            while (rows[pivot][k].isZero()) pivot++;
            Ratio[] swapped = rows[pivot];
            rows[pivot] = rows[k];
            rows[k] = swapped;
            for (int i = 0; i < rows.length; i++) {
                if (i == k) continue;
                Ratio factor = rows[i][k].by(rows[k][k]);
                for (int j = k; j <= unknowns; j++) {
                    rows[i][j] = rows[i][j].less(factor.times(rows[k][j]));
                }
            }
        }
        Ratio[] solution = new Ratio[unknowns];
        for (int k = 0; k < unknowns; k++) solution[k] = rows[k][unknowns].by(rows[k][k]);
        return solution;
    }
}
