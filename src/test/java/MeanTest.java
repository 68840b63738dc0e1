import java.math.BigInteger;

/** Promises 12 (mean) and 13 (best), beside hand-made ones against sums without a limit. */
public final class MeanTest {
    private static final int[][] SPEEDS = {
        {10, 10, 10, 10, 10, 10, 10, 10},
        {1, 1, 1, 1, 1, 1, 1, 1},
        {9, 8, 7, 6, 5, 4, 3, 2},
        {9, 4, 2, 1, 1, 1, 1, 1},
        {2, 1, 1, 1, 1, 1, 1, 1},
        {6, 3, 2, 5, 9, 1, 1, 7},
        {100, 50, 9, 1, 2, 1, 8, 3},
        {8, 4, 3, 2, 1, 1, 1, 1},
    };

    private MeanTest() {
    }

    public static void main(String[] args) {
        Check check = new Check("MeanTest");
        byHand(check);
        for (int[] speeds : SPEEDS) {
            againstSums(check, speeds);
        }
        wrongNumbers(check);
        check.end();
    }

    private static void byHand(Check check) {
        LinePool x = new LinePool();
        check.due("none waits, above", x.mean(1, 9, 1, 0), 0);
        check.due("none waits, below", x.mean(1, 9, 1, 1), 1);
        check.due("more lines than callers, below", x.mean(3, 2, 8, 1), 1);
        // speed counts as 9: w = 81, 18, 2; 2 by 18 * 9 + 2 * 9
        check.due("two by one, above", x.mean(2, 1, 1, 0), 1);
        check.due("two by one, below", x.mean(2, 1, 1, 1), 90);
        x.speed(1, 2);
        x.speed(2, 1);
        // two at once end as much as one alone, so that none has to wait, which is the best all the same
        check.due("best of 2", x.best(2, 5, 2), 2);
        check.due("best of one", x.best(8, 9, 1), 1);
        check.due("of equal ones the least", x.best(1, 3, 8), 1);
        check.due("of equal ones the least", x.best(3, 3, 8), 3);
    }

    private static void againstSums(Check check, int[] speeds) {
        LinePool x = new LinePool();
        for (int k = 1; k <= speeds.length; k++) {
            x.speed(k, speeds[k - 1]);
        }
        for (int n = 1; n <= 8; n++) {
            for (int r = 1; r <= 9; r++) {
                BigInteger[] least = null;
                int bestSize = 0;
                for (int c = 1; c <= 8; c++) {
                    BigInteger[] wait = wait(speeds, n, r, c);
                    String call = "mean(" + n + ", " + r + ", " + c + ") ";
                    check.due(call + "above", x.mean(n, r, c, 0), wait[0].longValueExact());
                    check.due(call + "below", x.mean(n, r, c, 1), wait[1].longValueExact());
                    if (least == null || wait[0].multiply(least[1]).compareTo(least[0].multiply(wait[1])) < 0) {
                        least = wait;
                        bestSize = c;
                    }
                    check.due("best(" + n + ", " + r + ", " + c + ")", x.best(n, r, c), bestSize);
                }
            }
        }
    }

    private static BigInteger[] wait(int[] speeds, int many, int r, int c) {
        BigInteger above = BigInteger.ZERO;
        BigInteger below = BigInteger.ZERO;
        for (int n = 0; n <= many; n++) {
            BigInteger w = BigInteger.ONE;
            for (int i = 0; i < n; i++) {
                w = w.multiply(BigInteger.valueOf((long) (many - i) * r));
            }
            for (int i = n + 1; i <= many; i++) {
                w = w.multiply(BigInteger.valueOf(ends(speeds, Math.min(c, i))));
            }
            above = above.add(w.multiply(BigInteger.valueOf(n > c ? n - c : 0)));
            below = below.add(w.multiply(BigInteger.valueOf(ends(speeds, Math.min(c, n)))));
        }
        BigInteger common = above.gcd(below);
        return new BigInteger[] {above.divide(common), below.divide(common)};
    }

    private static int ends(int[] speeds, int k) {
        return k == 0 ? 0 : k * (speeds[k - 1] > 9 ? 9 : speeds[k - 1]);
    }

    private static void wrongNumbers(Check check) {
        LinePool x = new LinePool();
        for (int wrong : new int[] {Integer.MIN_VALUE, -1, 0, 9, 10, Integer.MAX_VALUE}) {
            check.due("mean of n " + wrong, x.mean(wrong, 1, 1, 0), -1);
            check.due("mean of c " + wrong, x.mean(1, 1, wrong, 1), -1);
            check.due("best of n " + wrong, x.best(wrong, 1, 1), -1);
            check.due("best of most " + wrong, x.best(1, 1, wrong), -1);
            if (wrong != 9) {
                check.due("mean of r " + wrong, x.mean(1, wrong, 1, 0), -1);
                check.due("best of r " + wrong, x.best(1, wrong, 1), -1);
            }
            if (wrong != 0) {
                check.due("mean of what " + wrong, x.mean(1, 1, 1, wrong), -1);
            }
        }
        check.due("mean of what 2", x.mean(1, 1, 1, 2), -1);
    }
}
