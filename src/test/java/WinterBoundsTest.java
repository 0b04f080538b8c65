import java.math.BigInteger;

/** Promises 29 and 30: each bound of seed and winters, just within and just beyond. */
public final class WinterBoundsTest {
    public static void main(String[] args) {
        Due due = new Due("WinterBoundsTest");
        seedFrom0(due);
        wrapsAround(due);
        howManyTimes(due);
        howManyNights(due);
        byEveryChance(due);
        goesOnFromTimeToTime(due);
        whatAndWhere(due);
        due.end();
    }

    /** x (0 to 2147483647; 0 at first): what it was; NONE, and nothing happens, below 0. */
    private static void seedFrom0(Due due) {
        FireTax x = new FireTax();
        due.is("0 at first", x.count(14), 0);
        new Edge(due, "x", x::seed).answers(1, 0).answers(-1, -1).answers(0, 1).answers(Integer.MIN_VALUE, -1)
                .answers(Integer.MAX_VALUE, 0).answers(-2, -1).answers(Integer.MAX_VALUE - 1, Integer.MAX_VALUE)
                .answers(Integer.MIN_VALUE + 1, -1).answers(0, Integer.MAX_VALUE - 1);
        due.is("0 again", x.count(14), 0);
    }

    private static BigInteger next(BigInteger x) {
        return x.multiply(BigInteger.valueOf(1103515245)).add(BigInteger.valueOf(12345)).mod(BigInteger.valueOf(2147483648L));
    }

    /** x * 1103515245 + 12345, of 2147483648 the rest; a DRAW is x / 65536, mod 100: by the least x and the greatest. */
    private static void wrapsAround(Due due) {
        int[] seeds = {0, 1, 2, 65535, 65536, 1103515245, 1 << 30, Integer.MAX_VALUE - 1, Integer.MAX_VALUE};
        for (int seed : seeds) {
            FireTax x = Due.land("duchy 0 1 9;house 10 0 0");
            x.seed(seed);
            BigInteger drawn = next(BigInteger.valueOf(seed));
            int percent = drawn.divide(BigInteger.valueOf(65536)).intValue() % 100;
            due.is("seed " + seed + " by " + percent, x.winters(1, 1, percent, 0), 0);
            due.is("seed " + seed + " by one more", x.winters(1, 1, percent + 1, 0), 1);
            due.is("x as it was", x.count(14), seed);
        }
    }

    /** m times (1 to 10). */
    private static void howManyTimes(Due due) {
        FireTax x = Due.land("duchy 100 0 1;house 7 0 0;house 0 0 0;officer 0 200", "call 1");
        Edge frozen = new Edge(due, "m, frozen", m -> x.winters(m, 1, 0, 0)).refuses(1, 10, -1);
        Edge held = new Edge(due, "m, held", m -> x.winters(m, 1, 0, 1)).refuses(1, 10, -1);
        for (int m = 1; m <= 10; m++) {
            frozen.answers(m, 2 * m);
            held.answers(m, 7 * m);
        }
    }

    /** n NIGHTS (1 to 60): each takes 1 without snow, 2 with. */
    private static void howManyNights(Due due) {
        for (int warmth : new int[] {1, 2, 30, 59, 60, 61, 99}) {
            FireTax x = Due.land("duchy 0 1 1;house " + warmth + " 0 0");
            for (int n = 1; n <= 60; n++) {
                due.is(warmth + " without snow, " + n, x.winters(1, n, 0, 0), warmth - n < 1 ? 1 : 0);
                due.is(warmth + " in snow, " + n, x.winters(1, n, 100, 0), warmth - 2 * n < 1 ? 1 : 0);
            }
            new Edge(due, "n", n -> x.winters(1, n, 0, 0)).refuses(1, 60, -1);
        }
    }

    /** Below p (0 to 100) it is one of SNOW: by 0 never, by 100 always. */
    private static void byEveryChance(Due due) {
        for (int p = 0; p <= 100; p++) {
            BigInteger drawn = BigInteger.valueOf(p * 7919L);
            int snows = 0;
            for (int i = 0; i < 30; i++) {
                drawn = next(drawn);
                snows += drawn.intValue() / 65536 % 100 < p ? 1 : 0;
            }
            due.is("never or always", p == 0 ? snows : p == 100 ? snows - 30 : 0, 0);
            FireTax at = Due.land("duchy 0 1 9;house " + (9 + 30 + snows) + " 0 0");
            at.seed(p * 7919);
            due.is("at FREEZE by " + p, at.winters(1, 30, p, 0), 0);
            FireTax below = Due.land("duchy 0 1 9;house " + (8 + 30 + snows) + " 0 0");
            below.seed(p * 7919);
            due.is("below it by " + p, below.winters(1, 30, p, 0), 1);
        }
        FireTax x = Due.land("duchy 0 1 1;house 9 0 0");
        new Edge(due, "p", p -> x.winters(1, 1, p, 0)).answers(0, 0).answers(100, 0).refuses(0, 100, -1);
    }

    /** The draws of one time are followed by those of the next: from 0 on they are 0, 68, 88 and 17 of a hundred. */
    private static void goesOnFromTimeToTime(Due due) {
        FireTax x = Due.land("duchy 0 1 9;house 10 0 0");
        int[] by18 = {1, 1, 1, 2};
        int[] by69 = {1, 2, 2, 3};
        int[] by89 = {1, 2, 3, 4};
        for (int m = 1; m <= 4; m++) {
            due.is(m + " times by 0", x.winters(m, 1, 0, 0), 0);
            due.is(m + " times by 18", x.winters(m, 1, 18, 0), by18[m - 1]);
            due.is(m + " times by 69", x.winters(m, 1, 69, 0), by69[m - 1]);
            due.is(m + " times by 89", x.winters(m, 1, 89, 0), by89[m - 1]);
        }
    }

    /** What 0, 1; NONE without these, or a DUCHY. */
    private static void whatAndWhere(Due due) {
        FireTax x = Due.land("duchy 50 0 0;house 80 0 0;officer 0 200", "call 1");
        new Edge(due, "what", what -> x.winters(10, 60, 100, what)).answers(0, 0).answers(1, 10 * x.ahead(0, 60, 1)).refuses(0, 1, -1);
        due.is("x as it was", x.count(14), 0);
        due.is("without a duchy", new FireTax().winters(1, 1, 0, 0), -1);
        due.is("without houses", Due.land("duchy 0 0 0").winters(10, 60, 100, 0), 0);
        due.is("without officers", Due.land("duchy 0 0 0;house 1 0 0").winters(10, 60, 100, 1), 0);
    }
}
