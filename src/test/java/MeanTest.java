import java.math.BigInteger;

/** Promises 12 (mean) and 13 (best): by hand, at the edges, and against sums without a limit. */
public final class MeanTest {
    private static final String MEAN = "Promise 12: mean";
    private static final String BEST = "Promise 13: best";
    private static final int[][] SPEEDS = {
        {10, 10, 10, 10, 10, 10, 10, 10},
        {1, 1, 1, 1, 1, 1, 1, 1},
        {9, 8, 7, 6, 5, 4, 3, 2},
        {9, 4, 2, 1, 1, 1, 1, 1},
        {2, 1, 1, 1, 1, 1, 1, 1},
        {6, 3, 2, 5, 9, 1, 1, 7},
        {100, 50, 9, 1, 2, 1, 8, 3},
        {8, 4, 3, 2, 1, 1, 1, 1},
        {1, 9, 1, 9, 1, 9, 1, 9},
    };

    private MeanTest() {
    }

    public static void main(String[] args) {
        Sentences all = new Sentences("MeanTest");
        all.hold(MEAN, "MEAN WAIT: the sum over n of w(n) times those of n above c, by the sum of w(n) * k * SPEED(k)",
            MeanTest::meanAgainstSums);
        all.hold(MEAN, "N callers (1 .. 8)", MeanTest::callers);
        all.hold(MEAN, "r 1 .. 9", MeanTest::rates);
        all.hold(MEAN, "with SIZE c (1 .. 8)", MeanTest::sizes);
        all.hold(MEAN, "SPEED as told, but at most 9", MeanTest::speedAtMostNine);
        all.hold(MEAN, "k is the lesser of c and those in the pool", MeanTest::lesserOfBoth);
        all.hold(MEAN, "w(n) the product, over i from 0 to n - 1, of (N - i) * r, and over i from n + 1 to N of "
            + "k * SPEED(k), with k the lesser of c and i.", MeanTest::products);
        all.hold(MEAN, "In the long run the share of the time in which n are in the pool is as w(n)",
            MeanTest::longRun);
        all.hold(MEAN, "those of n above c", MeanTest::aboveSize);
        all.hold(MEAN, "as a fraction in lowest terms", MeanTest::lowestTerms);
        all.hold(MEAN, "what 0: what stands above, 1: below.", MeanTest::aboveAndBelow);
        all.hold(MEAN, "NONE for other numbers.", MeanTest::otherMeans);

        all.hold(BEST, "the one with the least MEAN WAIT", MeanTest::bestAgainstSums);
        all.hold(BEST, "Of SIZES 1 .. most (1 .. 8)", MeanTest::mostSizes);
        all.hold(BEST, "(of equal ones the least)", MeanTest::leastOfEqual);
        all.hold(BEST, "NONE for other numbers.", MeanTest::otherBests);
        all.end();
    }

    private static LinePool with(int... speeds) {
        LinePool x = new LinePool();
        for (int k = 1; k <= speeds.length; k++) {
            x.speed(k, speeds[k - 1]);
        }
        return x;
    }

    private static void mean(Check check, LinePool x, int n, int r, int c, long above, long below) {
        String call = "mean(" + n + ", " + r + ", " + c + ", ";
        check.due(call + "0)", x.mean(n, r, c, 0), above);
        check.due(call + "1)", x.mean(n, r, c, 1), below);
    }

    private static BigInteger[] wait(int[] speeds, int many, int r, int c) {
        BigInteger above = BigInteger.ZERO;
        BigInteger below = BigInteger.ZERO;
        for (int n = 0; n <= many; n++) {
            BigInteger w = BigInteger.ONE;
            for (int i = 0; i < n; i++) {
                w = w.multiply(BigInteger.valueOf((long) (many - i) * r));
            }
            for (int i = n + 1; i <= many; i++) {
                w = w.multiply(BigInteger.valueOf(ends(speeds, Math.min(c, i))));
            }
            above = above.add(w.multiply(BigInteger.valueOf(n > c ? n - c : 0)));
            below = below.add(w.multiply(BigInteger.valueOf(ends(speeds, Math.min(c, n)))));
        }
        BigInteger common = above.gcd(below);
        return new BigInteger[] {above.divide(common), below.divide(common)};
    }

    private static int ends(int[] speeds, int k) {
        return k == 0 ? 0 : k * (speeds[k - 1] > 9 ? 9 : speeds[k - 1]);
    }

    private static boolean less(BigInteger[] a, BigInteger[] b) {
        return a[0].multiply(b[1]).compareTo(b[0].multiply(a[1])) < 0;
    }

    private static void meanAgainstSums(Check check) {
        for (int[] speeds : SPEEDS) {
            for (int n = 1; n <= 8; n++) {
                LinePool x = with(speeds);
                for (int r = 1; r <= 9; r++) {
                    for (int c = 1; c <= 8; c++) {
                        BigInteger[] wait = wait(speeds, n, r, c);
                        mean(check, x, n, r, c, wait[0].longValueExact(), wait[1].longValueExact());
                    }
                }
            }
        }
    }

    private static void refusedMean(Check check, int n, int r, int c, int what) {
        String call = "mean(" + n + ", " + r + ", " + c + ", " + what + ")";
        check.refused(call, Plays::busy, x -> x.mean(n, r, c, what), -1);
    }

    private static void callers(Check check) {
        LinePool x = with(1, 1, 1, 1, 1, 1, 1, 1);
        mean(check, x, 1, 1, 1, 0, 1);
        mean(check, x, 8, 1, 8, 0, 1);
        BigInteger[] wait = wait(new int[] {1, 1, 1, 1, 1, 1, 1, 1}, 8, 1, 7);
        mean(check, x, 8, 1, 7, wait[0].longValueExact(), wait[1].longValueExact());
        for (int n : new int[] {-1, 0, 9, Plays.MIN, Plays.MAX}) {
            refusedMean(check, n, 1, 1, 0);
            refusedMean(check, n, 1, 1, 1);
        }
    }

    private static void rates(Check check) {
        // two by one of speed 1: w = 1, 2r, 2rr; 2rr by 2r + 2rr
        LinePool x = with(1, 1);
        mean(check, x, 2, 1, 1, 1, 2);
        mean(check, x, 2, 9, 1, 9, 10);
        for (int r : new int[] {-1, 0, 10, Plays.MIN, Plays.MAX}) {
            refusedMean(check, 2, r, 1, 0);
            refusedMean(check, 2, r, 1, 1);
        }
    }

    private static void sizes(Check check) {
        LinePool x = with(1, 1, 1, 1, 1, 1, 1, 1);
        mean(check, x, 2, 1, 1, 1, 2);
        mean(check, x, 2, 1, 2, 0, 1);
        mean(check, x, 2, 1, 8, 0, 1);
        for (int c : new int[] {-1, 0, 9, Plays.MIN, Plays.MAX}) {
            refusedMean(check, 2, 1, c, 0);
            refusedMean(check, 2, 1, c, 1);
        }
    }

    private static void speedAtMostNine(Check check) {
        // two by one of speed s and rate 1: w = ss, 2s, 2; 2 by 2ss + 2s
        int[][] speedBelow = {{1, 2}, {8, 72}, {9, 90}, {10, 90}, {100, 90}};
        for (int[] row : speedBelow) {
            mean(check, with(row[0]), 2, 1, 1, 1, row[1]);
        }
        mean(check, new LinePool(), 2, 1, 1, 1, 90);
        // the speed of 8, the last one that counts here
        int[] speeds = {10, 10, 10, 10, 10, 10, 10, 3};
        BigInteger[] wait = wait(speeds, 8, 9, 7);
        mean(check, with(speeds), 8, 9, 7, wait[0].longValueExact(), wait[1].longValueExact());
    }

    private static void lesserOfBoth(Check check) {
        // three by two: the ends are 1 * 2, then 2 * 5 for two and for three in the pool
        // w = 2 * 10 * 10, 3 * 10 * 10, 6 * 10, 6: 6 by 300 * 2 + 60 * 10 + 6 * 10
        LinePool x = with(2, 5, 9);
        mean(check, x, 3, 1, 2, 1, 210);
        // the speed of 3 is none of two lines
        x.speed(3, 1);
        mean(check, x, 3, 1, 2, 1, 210);
        x.speed(2, 4);
        // w = 128, 192, 48, 6: 6 by 192 * 2 + 48 * 8 + 6 * 8
        mean(check, x, 3, 1, 2, 1, 136);
        // more lines than callers: the speed of 3 never counts
        LinePool y = with(2, 5, 9);
        mean(check, y, 2, 1, 3, 0, 1);
    }

    private static void products(Check check) {
        // four by two of rate 2: they come with 8, 6, 4, 2, and end with 1 * 3, then 2 * 2 for two and more
        // w = 3 * 4 * 4 * 4, 8 * 4 * 4 * 4, 8 * 6 * 4 * 4, 8 * 6 * 4 * 4, 8 * 6 * 4 * 2
        // 768 + 384 * 2 by 512 * 3 + 768 * 4 + 768 * 4 + 384 * 4
        mean(check, with(3, 2), 4, 2, 2, 1, 6);
        // none comes ahead of none, none ends behind all: one caller, w = 3, 2
        mean(check, with(3), 1, 2, 1, 0, 1);
    }

    /**
     * From the rates alone: in the long run as many come from n to n + 1 as end from n + 1 to n, and who
     * wait, by who come in the same time, is the mean wait.
     */
    private static void longRun(Check check) {
        for (int[] speeds : SPEEDS) {
            for (int many = 1; many <= 8; many++) {
                LinePool x = with(speeds);
                for (int c = 1; c <= 8; c++) {
                    int r = 1 + (many + c) % 9;
                    double share = 1;
                    double waiting = 0;
                    double coming = many * r;
                    for (int n = 1; n <= many; n++) {
                        share *= (double) (many - n + 1) * r / ends(speeds, Math.min(c, n));
                        waiting += share * Math.max(0, n - c);
                        coming += share * (many - n) * r;
                    }
                    double mean = (double) x.mean(many, r, c, 0) / x.mean(many, r, c, 1);
                    String call = "mean(" + many + ", " + r + ", " + c + ", ..), " + mean + ", beside ";
                    double due = waiting / coming;
                    check.due(call + due, Math.abs(mean - due) <= 1e-9 * due, true);
                }
            }
        }
    }

    private static void aboveSize(Check check) {
        LinePool x = with(1, 1, 1);
        // three by one: w = 1, 3, 6, 6: 6 * 1 + 6 * 2 by 3 + 6 + 6
        mean(check, x, 3, 1, 1, 6, 5);
        // three by two: w = 4, 12, 12, 6: 6 by 12 + 24 + 12
        mean(check, x, 3, 1, 2, 1, 8);
        mean(check, x, 3, 1, 3, 0, 1);
        mean(check, x, 3, 1, 4, 0, 1);
    }

    private static void lowestTerms(Check check) {
        for (int n = 1; n <= 8; n++) {
            LinePool x = new LinePool();
            for (int r = 1; r <= 9; r++) {
                for (int c = 1; c <= 8; c++) {
                    BigInteger above = BigInteger.valueOf(x.mean(n, r, c, 0));
                    BigInteger below = BigInteger.valueOf(x.mean(n, r, c, 1));
                    check.due("the common divisor", above.gcd(below).longValueExact(), 1);
                    check.due("whether below is above 0", below.signum(), 1);
                    if (c >= n) {
                        mean(check, x, n, r, c, 0, 1);
                    }
                }
            }
        }
    }

    private static void aboveAndBelow(Check check) {
        LinePool x = with(1, 1);
        check.due("mean(2, 1, 1, 0)", x.mean(2, 1, 1, 0), 1);
        check.due("mean(2, 1, 1, 1)", x.mean(2, 1, 1, 1), 2);
        for (int what : new int[] {-1, 2, Plays.MIN, Plays.MAX}) {
            refusedMean(check, 2, 1, 1, what);
        }
        check.same("mean(8, 9, 1, 0)", y -> {
            Plays.busy(y);
            y.mean(8, 9, 1, 0);
        }, Plays::busy);
    }

    private static void otherMeans(Check check) {
        LinePool x = new LinePool();
        check.due("all at their least", x.mean(1, 1, 1, 0), 0);
        check.due("all at their most", x.mean(8, 9, 8, 1), 1);
        refusedMean(check, 0, 0, 0, -1);
        refusedMean(check, 9, 10, 9, 2);
        refusedMean(check, 9, 1, 1, 0);
        refusedMean(check, 1, 10, 1, 0);
        refusedMean(check, 1, 1, 9, 0);
        refusedMean(check, 1, 1, 1, 2);
        check.refused("mean(0, 1, 1, 0)", Plays::none, y -> y.mean(0, 1, 1, 0), -1);
    }

    private static void bestAgainstSums(Check check) {
        for (int[] speeds : SPEEDS) {
            for (int n = 1; n <= 8; n++) {
                LinePool x = with(speeds);
                for (int r = 1; r <= 9; r++) {
                    BigInteger[] least = null;
                    int best = 0;
                    for (int most = 1; most <= 8; most++) {
                        BigInteger[] wait = wait(speeds, n, r, most);
                        if (least == null || less(wait, least)) {
                            least = wait;
                            best = most;
                        }
                        check.due("best(" + n + ", " + r + ", " + most + ")", x.best(n, r, most), best);
                    }
                }
            }
        }
    }

    private static void refusedBest(Check check, int n, int r, int most) {
        String call = "best(" + n + ", " + r + ", " + most + ")";
        check.refused(call, Plays::busy, x -> x.best(n, r, most), -1);
    }

    private static void mostSizes(Check check) {
        // three by one wait less than three by two, as two at once are slow; with three none waits
        LinePool x = with(9, 1, 1);
        check.due("best(3, 1, 1)", x.best(3, 1, 1), 1);
        check.due("best(3, 1, 2)", x.best(3, 1, 2), 1);
        check.due("best(3, 1, 3)", x.best(3, 1, 3), 3);
        LinePool y = new LinePool();
        check.due("best(8, 9, 1)", y.best(8, 9, 1), 1);
        check.due("best(8, 9, 7)", y.best(8, 9, 7), 7);
        check.due("best(8, 9, 8)", y.best(8, 9, 8), 8);
        for (int most : new int[] {-1, 0, 9, Plays.MIN, Plays.MAX}) {
            refusedBest(check, 3, 1, most);
        }
    }

    private static void leastOfEqual(Check check) {
        LinePool x = new LinePool();
        for (int n = 1; n <= 8; n++) {
            check.due("best(" + n + ", 3, 8)", x.best(n, 3, 8), n);
        }
        // with one caller none ever waits, with one line or with more
        for (int most = 1; most <= 8; most++) {
            check.due("best(1, 3, " + most + ")", x.best(1, 3, most), 1);
        }
    }

    private static void otherBests(Check check) {
        for (int wrong : new int[] {-1, 0, Plays.MIN, Plays.MAX}) {
            refusedBest(check, wrong, 1, 1);
            refusedBest(check, 1, wrong, 1);
            refusedBest(check, 1, 1, wrong);
        }
        refusedBest(check, 9, 1, 1);
        refusedBest(check, 1, 10, 1);
        refusedBest(check, 1, 1, 9);
        check.refused("best(0, 1, 1)", Plays::none, x -> x.best(0, 1, 1), -1);
        LinePool x = new LinePool();
        check.due("all at their least", x.best(1, 1, 1), 1);
        check.due("all at their most", x.best(8, 9, 8), 8);
        check.same("best(8, 9, 8)", y -> {
            Plays.busy(y);
            y.best(8, 9, 8);
        }, Plays::busy);
    }
}
