/** Pools in states that several tests begin with, and ways to read what only a play can show. */
final class Plays {
    static final int MIN = Integer.MIN_VALUE;
    static final int MAX = Integer.MAX_VALUE;

    private Plays() {
    }

    static void none(LinePool x) {
        // the calls ahead of a new object's first one
    }

    /** Lines open at once, and none leaks or rests too long in 999 ticks. */
    static LinePool quick(int size, int tryTicks, int warm) {
        LinePool x = new LinePool();
        quicken(x, size, tryTicks, warm);
        return x;
    }

    static void quicken(LinePool x, int size, int tryTicks, int warm) {
        x.set(0, size);
        x.set(1, 0);
        x.set(2, tryTicks);
        x.set(3, 1000);
        x.set(4, 1000);
        x.set(5, warm);
    }

    static void runTo(LinePool x, int tick) {
        int left = tick - (int) x.count(0);
        while (left > 0) {
            int n = Math.min(left, 500);
            x.run(n);
            left -= n;
        }
    }

    /** So many plain callers of rank 0 who come in this tick. */
    static void comers(LinePool x, int many, int patience, int work, int tick) {
        for (int i = 0; i < many; i++) {
            x.caller(0, 0, patience, work, tick);
        }
    }

    /** The speeds of 1 to 12 at work, as their work shows them; all but the speeds is lost in it. */
    static int[] speedsAtWork(LinePool x) {
        quicken(x, 12, -1, 12);
        int[] speeds = new int[12];
        for (int k = 1; k <= 12; k++) {
            x.clear();
            comers(x, k, 0, 1000, 2);
            x.run(3);
            speeds[k - 1] = 1000 - x.told(0, 1);
        }
        return speeds;
    }

    /** Numbers and speeds that are all others than at first. */
    static void busySettings(LinePool x) {
        int[] numbers = {7, 3, 2, 30, 40, 6};
        for (int what = 0; what < 6; what++) {
            x.set(what, numbers[what]);
        }
        for (int k = 1; k <= 12; k++) {
            x.speed(k, 14 - k);
        }
    }

    /** TICK 11, lines in each state, some broken, callers who wait, try, work, hold, are gone or to come. */
    static void busy(LinePool x) {
        busySettings(x);
        x.set(5, 5);
        x.caller(0, 3, 50, 200, 2);
        x.caller(1, 2, 50, 10, 2);
        x.caller(2, 1, 50, 20, 2);
        x.caller(0, 9, 0, 10, 2);
        x.caller(0, 0, 20, 40, 10);
        x.caller(2, 5, 20, 30, 13);
        x.caller(0, 5, 20, 30, 4000);
        x.broken(8, 1);
        x.broken(10, 4);
        x.broken(11, 3);
        x.broken(14, 0);
        x.broken(5000, 11);
        x.crowd(3);
        x.crowd(2);
        x.crowd(4);
        x.run(10);
        x.set(5, 6);
        x.run(1);
    }

    /** TICK 1 with 60 callers, 60 breaks, and 6 of the crowd. */
    static void full(LinePool x) {
        for (int i = 0; i < 60; i++) {
            x.caller(i % 3, i % 10, 9, 5 + i, 1 + i / 8);
            x.broken(3 + i, i % 12);
        }
        for (int i = 0; i < 6; i++) {
            x.crowd(1 + i % 4);
        }
        x.run(1);
    }
}
