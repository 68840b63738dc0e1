/** Promises 1 (a new object), 2 (set) and 3 (speed). */
public final class SettingsTest {
    private static final int[] FIRST = {4, 2, 1, 100, 50, 1};
    private static final int[] LEAST = {1, 0, -1, 1, 1, 0};
    private static final int[] MOST = {12, 20, 20, 1000, 1000, 12};

    private SettingsTest() {
    }

    public static void main(String[] args) {
        Check check = new Check("SettingsTest");
        newObject(check);
        numbers(check);
        speeds(check);
        speedOfManyAtWork(check);
        check.end();
    }

    private static void newObject(Check check) {
        LinePool x = new LinePool();
        for (int what = 0; what <= 17; what++) {
            check.due("count(" + what + ") of a new object", x.count(what), 0);
        }
        for (int s = 0; s < 12; s++) {
            check.slot(x, s, 0, 0, -1, 0, 0);
        }
        check.due("event(0, 0) of a new object", x.event(0, 0), -1);
        check.toldThrows(x, 0, 0);
        check.due("scatter() of a new object", x.scatter(), 0);
        check.due("NONE", LinePool.NONE, -1);
    }

    private static void numbers(Check check) {
        LinePool x = new LinePool();
        for (int what = 0; what < 6; what++) {
            check.due("set, first of " + what, x.set(what, LEAST[what]), FIRST[what]);
            check.due("set, most of " + what, x.set(what, MOST[what]), LEAST[what]);
            check.due("set, too little of " + what, x.set(what, LEAST[what] - 1), -2);
            check.due("set, too much of " + what, x.set(what, MOST[what] + 1), -2);
            check.due("set, far off of " + what, x.set(what, Integer.MIN_VALUE), -2);
            check.due("set, far off of " + what, x.set(what, Integer.MAX_VALUE), -2);
            check.due("set, unchanged of " + what, x.set(what, FIRST[what]), MOST[what]);
        }
        check.due("set(-1, 1)", x.set(-1, 1), -2);
        check.due("set(6, 1)", x.set(6, 1), -2);
        check.due("set of no number", x.set(Integer.MIN_VALUE, 1), -2);
        check.due("set of no number", x.set(Integer.MAX_VALUE, 1), -2);
    }

    private static void speeds(Check check) {
        LinePool x = new LinePool();
        int[] wrong = {Integer.MIN_VALUE, -1, 0, 13, Integer.MAX_VALUE};
        for (int k : wrong) {
            check.due("speed of " + k, x.speed(k, 5), false);
        }
        for (int k = 1; k <= 12; k++) {
            check.due("speed(" + k + ", 1)", x.speed(k, 1), true);
            check.due("speed(" + k + ", 100)", x.speed(k, 100), true);
            check.due("speed(" + k + ", 0)", x.speed(k, 0), false);
            check.due("speed(" + k + ", 101)", x.speed(k, 101), false);
        }
    }

    /** With k at work each does the speed of k, the first speeds being 10 and a refused one left out. */
    private static void speedOfManyAtWork(Check check) {
        for (int k = 1; k <= 12; k++) {
            LinePool x = new LinePool();
            x.set(0, 12);
            x.set(1, 0);
            x.set(2, -1);
            for (int i = 0; i < k; i++) {
                x.caller(0, 0, 9, 1000, 1);
            }
            x.run(3);
            check.due("work left with the first speed of " + k, x.told(0, 1), 990);
            x.speed(k, 20 + k);
            x.speed(k, 101);
            x.run(1);
            for (int i = 0; i < k; i++) {
                check.due("work left with " + k + " at work", x.told(i, 1), 970 - k);
            }
        }
    }
}
