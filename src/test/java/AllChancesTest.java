import java.math.BigInteger;

/** Every tally that a change can have: its chance, and the least limit for which it is bad. */
public final class AllChancesTest extends Boundaries {
    private static final int MOST_PROBES = 25;
    private static final BigInteger THOUSAND = BigInteger.valueOf(1000);
    private static final BigInteger[][] SETS = triangle(2 * MOST_PROBES);

    public static void main(String[] args) {
        test("Tells the chance in lowest terms (1 without probes).", () -> {
            for (int treated = 0; treated <= MOST_PROBES; treated++) {
                for (int control = 0; control <= MOST_PROBES; control++) {
                    allOf(treated, control);
                }
            }
        });
        end("all chances");
    }

    /** Pascal's triangle, as only sums are needed for it. */
    private static BigInteger[][] triangle(int most) {
        BigInteger[][] rows = new BigInteger[most + 1][];
        for (int n = 0; n <= most; n++) {
            rows[n] = new BigInteger[n + 1];
            for (int k = 0; k <= n; k++) {
                rows[n][k] = k == 0 || k == n ? BigInteger.ONE : rows[n - 1][k - 1].add(rows[n - 1][k]);
            }
        }
        return rows;
    }

    private static BigInteger sets(int n, int k) {
        return k > n ? BigInteger.ZERO : SETS[n][k];
    }

    private static void allOf(int treated, int control) {
        for (int a = 0; a <= treated; a++) {
            for (int c = 0; c <= control; c++) {
                one(a, treated - a, c, control - c);
            }
        }
    }

    private static void one(int a, int b, int c, int d) {
        BigInteger ways = BigInteger.ZERO;
        for (int k = a; k <= Math.min(a + b, a + c); k++) {
            ways = ways.add(sets(a + c, k).multiply(sets(b + d, a + b - k)));
        }
        BigInteger all = sets(a + b + c + d, a + b);
        BigInteger divisor = ways.gcd(all);
        String of = " of " + a + ", " + b + ", " + c + ", " + d;

        StagedRollout x = running(2, 48);
        x.pass(1);
        report(x, 0, a, b);
        report(x, 1, c, d);
        due("numerator" + of, x.chance(0, false), ways.divide(divisor).longValueExact());
        due("denominator" + of, x.chance(0, true), all.divide(divisor).longValueExact());

        int leastBad = ways.multiply(THOUSAND).add(all).subtract(BigInteger.ONE).divide(all).intValueExact();
        x.save(0);
        x.setLimit(leastBad);
        x.pass(1);
        due("with the limit " + leastBad + of, x.change(0, 0), TURNING);
        x.restore(0);
        x.setLimit(leastBad - 1);
        x.pass(1);
        due("with the limit " + (leastBad - 1) + of, x.change(0, 0), RUNNING);
    }
}
