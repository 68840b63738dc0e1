/** Promises 4 (caller), 5 (broken), 10 (told): what is taken and what is refused. */
public final class TellingTest {
    private static final int FAR = Integer.MAX_VALUE;
    private static final int FAR_BELOW = Integer.MIN_VALUE;

    private TellingTest() {
    }

    public static void main(String[] args) {
        Check check = new Check("TellingTest");
        callerNumbers(check);
        callerTicks(check);
        mostCallers(check);
        breakNumbers(check);
        mostBreaks(check);
        told(check);
        check.end();
    }

    private static void callerNumbers(Check check) {
        LinePool x = new LinePool();
        check.due("least", x.caller(0, 0, 0, 1, 1), 0);
        check.due("most", x.caller(2, 9, 1000, 1000, 5000), 1);
        int[][] wrong = {
            {-1, 0, 0, 1, 1}, {3, 0, 0, 1, 1}, {FAR, 0, 0, 1, 1}, {FAR_BELOW, 0, 0, 1, 1},
            {0, -1, 0, 1, 1}, {0, 10, 0, 1, 1}, {0, FAR, 0, 1, 1}, {0, FAR_BELOW, 0, 1, 1},
            {0, 0, -1, 1, 1}, {0, 0, 1001, 1, 1}, {0, 0, FAR, 1, 1}, {0, 0, FAR_BELOW, 1, 1},
            {0, 0, 0, 0, 1}, {0, 0, 0, 1001, 1}, {0, 0, 0, FAR, 1}, {0, 0, 0, FAR_BELOW, 1},
            {0, 0, 0, 1, 0}, {0, 0, 0, 1, 5001}, {0, 0, 0, 1, FAR}, {0, 0, 0, 1, FAR_BELOW},
        };
        for (int[] w : wrong) {
            check.due("a wrong caller", x.caller(w[0], w[1], w[2], w[3], w[4]), -1);
        }
        check.due("callers told", x.count(1), 2);
        check.due("the next number", x.caller(1, 0, 0, 1, 1), 2);
    }

    private static void callerTicks(Check check) {
        LinePool x = new LinePool();
        x.run(7);
        check.due("caller in the tick that is", x.caller(0, 0, 0, 1, 7), -1);
        check.due("caller in the next tick", x.caller(0, 0, 0, 1, 8), 0);
        check.due("break in the tick that is", x.broken(7, 0), false);
        check.due("break in the next tick", x.broken(8, 0), true);
        for (int i = 0; i < 10; i++) {
            x.run(500);
        }
        check.due("tick", x.count(0), 5007);
        check.due("caller past the last tick", x.caller(0, 0, 0, 1, 5008), -1);
        check.due("break past the last tick", x.broken(5008, 0), false);
    }

    private static void mostCallers(Check check) {
        LinePool x = new LinePool();
        for (int i = 0; i < 60; i++) {
            check.due("caller " + i, x.caller(0, 0, 0, 1, 1), i);
        }
        check.due("caller 60", x.caller(0, 0, 0, 1, 1), -1);
        check.due("callers told", x.count(1), 60);
        x.run(100);
        check.due("caller 60, when all are gone", x.caller(0, 0, 0, 1, 200), -1);
        check.toldThrows(x, 60, 0);
        x.clear();
        check.due("caller after clear", x.caller(0, 0, 0, 1, 1), 0);
    }

    private static void breakNumbers(Check check) {
        LinePool x = new LinePool();
        check.due("least", x.broken(1, 0), true);
        check.due("most", x.broken(5000, 11), true);
        check.due("the same again", x.broken(5000, 11), true);
        int[][] wrong = {
            {0, 0}, {-1, 0}, {5001, 0}, {FAR, 0}, {FAR_BELOW, 0}, {1, -1}, {1, 12}, {1, FAR}, {1, FAR_BELOW},
        };
        for (int[] w : wrong) {
            check.due("broken(" + w[0] + ", " + w[1] + ")", x.broken(w[0], w[1]), false);
        }
    }

    private static void mostBreaks(Check check) {
        LinePool x = new LinePool();
        x.set(0, 12);
        x.set(1, 0);
        x.set(5, 12);
        for (int i = 0; i < 59; i++) {
            check.due("break " + i, x.broken(100, 0), true);
        }
        check.due("break 59", x.broken(2, 11), true);
        check.due("break 60", x.broken(2, 10), false);
        x.run(2);
        check.due("the last break told", x.slot(11, 1), 1);
        check.due("a refused break", x.slot(10, 1), 0);
        check.due("break 60, when one is past", x.broken(3, 10), false);
        x.clear();
        check.due("break after clear", x.broken(2, 10), true);
        x.run(2);
        check.due("a break of before clear", x.slot(11, 1), 0);
        check.due("a break of after clear", x.slot(10, 1), 1);
    }

    private static void told(Check check) {
        LinePool x = new LinePool();
        x.caller(2, 7, 30, 40, 5);
        x.caller(1, 3, 20, 15, 6);
        check.told(x, 0, 0, 40, 0, 0, 2, 7);
        check.told(x, 1, 0, 15, 0, 0, 1, 3);
        for (int what : new int[] {FAR_BELOW, -1, 6, FAR}) {
            check.toldThrows(x, 0, what);
        }
        for (int c : new int[] {FAR_BELOW, -1, 2, 59, 60, FAR}) {
            check.toldThrows(x, c, 0);
        }
        x.run(5);
        check.told(x, 0, 2, 40, 0, 5, 2, 7);
    }
}
