import java.math.BigInteger;

/** Promises 29 and 30: seed, winters. */
public final class WintersTest {
    private static BigInteger x = BigInteger.ZERO;

    public static void main(String[] args) {
        Due due = new Due("WintersTest");
        seed(due);
        firstDraws(due);
        frozen(due);
        held(due);
        toldToo(due);
        fromNowOn(due);
        wrong(due);
        due.end();
    }

    private static int draw() {
        x = x.multiply(BigInteger.valueOf(1103515245)).add(BigInteger.valueOf(12345)).mod(BigInteger.ONE.shiftLeft(31));
        return x.intValue() / 65536;
    }

    private static void seed(Due due) {
        FireTax f = new FireTax();
        due.is("0 at first", f.count(14), 0);
        due.is("was 0", f.seed(5), 0);
        due.is("was 5", f.seed(Integer.MAX_VALUE), 5);
        due.is("the greatest", f.count(14), Integer.MAX_VALUE);
        due.is("below 0", f.seed(-1), -1);
        due.is("least", f.seed(Integer.MIN_VALUE), -1);
        due.is("nothing happened", f.count(14), Integer.MAX_VALUE);
        due.is("was the greatest", f.seed(0), Integer.MAX_VALUE);
    }

    /** From 0 on the draws are 0, 21468, 9988 and 22117: 0, 68, 88 and 17 of a hundred. */
    private static void firstDraws(Due due) {
        int[] percent = {0, 68, 88, 17};
        x = BigInteger.ZERO;
        for (int i = 0; i < 4; i++) {
            due.is("draw " + i, draw() % 100, percent[i]);
        }
        for (int p = 0; p <= 100; p++) {
            int snows = 0;
            for (int i = 0; i < 4; i++) {
                snows += percent[i] < p ? 1 : 0;
            }
            FireTax f = Due.land("duchy 0 1 " + (20 - 4 - snows) + ";house 20 0 0");
            due.is("warm enough by " + p, f.winters(1, 4, p, 0), 0);
            FireTax g = Due.land("duchy 0 1 " + (20 - 4 - snows + 1) + ";house 20 0 0");
            due.is("too cold by " + p, g.winters(1, 4, p, 0), 1);
        }
    }

    private static void frozen(Due due) {
        for (int m = 1; m <= 10; m++) {
            for (int n = 1; n <= 60; n += 7) {
                int seed = m * 7919 + n * 104729;
                x = BigInteger.valueOf(seed);
                int p = (m * 31 + n * 17) % 101;
                int due0 = 0;
                for (int i = 0; i < m; i++) {
                    int warmth = 90 - n;
                    for (int k = 0; k < n; k++) {
                        warmth -= draw() % 100 < p ? 1 : 0;
                    }
                    due0 += (warmth < 40 ? 1 : 0) + (warmth - 30 < 40 ? 1 : 0);
                }
                FireTax f = Due.land("duchy 0 1 40;house 90 0 0;house 60 0 0");
                f.seed(seed);
                due.is("winters " + m + " " + n + " " + p, f.winters(m, n, p, 0), due0);
                due.is("x as it was", f.count(14), seed);
                due.is("once more", f.winters(m, n, p, 0), due0);
            }
        }
    }

    private static void held(Due due) {
        for (int m = 1; m <= 10; m += 3) {
            int n = 5 * m;
            x = BigInteger.valueOf(m);
            int sum = 0;
            for (int i = 0; i < m; i++) {
                int warmth = 99;
                for (int k = 0; k < n; k++) {
                    int taken = warmth / 10;
                    warmth -= taken;
                    sum += taken;
                    warmth = Math.max(0, warmth - (draw() % 100 < 50 ? 6 : 3));
                }
            }
            FireTax f = Due.land("duchy 10 3 0;house 99 0 0;officer 0 200;officer 0 1", "call 1 if officer=0");
            f.seed(m);
            due.is("held " + m, f.winters(m, n, 50, 1), sum);
            due.is("nothing changed", f.count(8), 0);
            due.is("warmth", f.house(0, 0), 99);
            due.is("no act", f.count(13), 0);
        }
        FireTax all = Due.land("duchy 10 0 0;house 50 0 0;house 60 0 0;house 70 0 0;officer 0 99;officer 1 99;officer 2 99",
                "call 1");
        due.is("all officers", all.winters(1, 1, 0, 1), 5 + 6 + 7);
        due.is("ten times", all.winters(10, 1, 0, 1), 180);
    }

    private static void toldToo(Due due) {
        FireTax f = Due.land("duchy 0 1 16;house 20 0 0;snow 0;snow 2");
        due.is("two nights without a draw's snow", f.winters(1, 2, 0, 0), 0 + (20 - 3 < 16 ? 1 : 0));
        due.is("three nights", f.winters(1, 3, 0, 0), 1);
        due.is("told and drawn is once", Due.land("duchy 0 1 18;house 20 0 0;snow 0").winters(1, 1, 100, 0), 0);
    }

    private static void fromNowOn(Due due) {
        FireTax f = Due.land("duchy 10 1 5;house 40 0 0;house 5 0 0;officer 0 99", "call 1");
        f.night();
        due.is("one is frozen already", f.count(9), 2);
        due.is("it counts", f.winters(3, 1, 0, 0), 3);
        due.is("what they have already counts", f.winters(3, 1, 0, 1), 3 * (4 + 3));
    }

    private static void wrong(Due due) {
        FireTax f = Due.land("duchy 0 0 0;house 1 1 1");
        for (int far : new int[] {-1, 0, 11, Integer.MIN_VALUE, Integer.MAX_VALUE}) {
            due.is("m " + far, f.winters(far, 1, 0, 0), -1);
        }
        for (int far : new int[] {-1, 0, 61, Integer.MIN_VALUE, Integer.MAX_VALUE}) {
            due.is("n " + far, f.winters(1, far, 0, 0), -1);
        }
        for (int far : new int[] {-1, 101, Integer.MIN_VALUE, Integer.MAX_VALUE}) {
            due.is("p " + far, f.winters(1, 1, far, 0), -1);
        }
        for (int far : new int[] {-1, 2, Integer.MIN_VALUE, Integer.MAX_VALUE}) {
            due.is("what " + far, f.winters(1, 1, 0, far), -1);
        }
        due.is("the edges", f.winters(10, 60, 100, 1), 0);
        due.is("no duchy", new FireTax().winters(1, 1, 0, 0), -1);
    }
}
