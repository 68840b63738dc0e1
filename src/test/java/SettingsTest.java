/** Promises 1 (a new object), 2 (set) and 3 (speed). */
public final class SettingsTest {
    private static final String NEW = "Promise 1: A new object";
    private static final String SET = "Promise 2: set";
    private static final String SPEED = "Promise 3: speed";

    private SettingsTest() {
    }

    public static void main(String[] args) {
        Sentences all = new Sentences("SettingsTest");
        all.hold(NEW, "As told; TICK 0, no LINES, CALLERS, BREAKS, CROWD.", SettingsTest::nothingThere);
        all.hold(NEW, "SLOTS 0 .. 11, each without a LINE", SettingsTest::slotsWithoutLine);
        all.hold(NEW, "public static final int NONE = -1;", check -> check.due("NONE", LinePool.NONE, -1));

        all.hold(SET, "A NUMBER of the POOL becomes v: what it was.", SettingsTest::becomes);
        all.hold(SET, "Refused (-2): no such NUMBER, v.", SettingsTest::noSuchNumber);
        all.hold(SET, "0 SIZE (1 .. 12, at first 4)", SettingsTest::size);
        all.hold(SET, "1 OPEN (0 .. 20; 2)", SettingsTest::open);
        all.hold(SET, "2 TRY (-1 .. 20; 1; -1: no tries)", SettingsTest::tries);
        all.hold(SET, "3 LEAK (1 .. 1000; 100)", SettingsTest::leak);
        all.hold(SET, "4 REST (1 .. 1000; 50)", SettingsTest::rest);
        all.hold(SET, "5 WARM (0 .. 12; 1)", SettingsTest::warm);

        all.hold(SPEED, "SPEED of k (1 .. 12) becomes v (1 .. 100): true; false for others.", SettingsTest::speedEdges);
        all.hold(SPEED, "told for 1 .. 12 (1 .. 100, at first 10 each)", SettingsTest::speedsOfEach);
        all.hold(SPEED, "SPEED of k at work (k 1 .. 60): told for 1 .. 12 (1 .. 100, at first 10 each), "
            + "for more that of 12.", SettingsTest::moreThanTwelve);
        all.end();
    }

    private static void nothingThere(Check check) {
        LinePool x = new LinePool();
        for (int what = 0; what <= 17; what++) {
            check.count(x, what, 0);
        }
        check.due("event(0, 0)", x.event(0, 0), -1);
        check.toldThrows(x, 0, 0);
        check.due("states(1, 0)", x.states(1, 0), 1);
        check.due("sure()", x.sure(), 1);
        check.due("scatter()", x.scatter(), 0);

        // no break: twelve lines that stay whole as long as a break could come, and then room for 60
        LinePool y = Plays.quick(12, -1, 12);
        Plays.runTo(y, 5001);
        for (int s = 0; s < 12; s++) {
            check.slot(y, s, 2, 0, -1, 0, 1);
        }
        LinePool z = new LinePool();
        for (int i = 0; i < 60; i++) {
            check.due("break " + i, z.broken(1, 0), true);
            check.due("caller " + i, z.caller(0, 0, 0, 1, 1), i);
        }
        for (int i = 1; i <= 6; i++) {
            check.due("crowd, number " + i, z.crowd(1), i);
        }
    }

    private static void slotsWithoutLine(Check check) {
        LinePool x = new LinePool();
        for (int s = 0; s < 12; s++) {
            check.slot(x, s, 0, 0, -1, 0, 0);
        }
        check.slot(x, -1, -1, -1, -1, -1, -1);
        check.slot(x, 12, -1, -1, -1, -1, -1);
    }

    private static void becomes(Check check) {
        LinePool x = new LinePool();
        int[] was = {4, 2, 1, 100, 50, 1};
        for (int what = 0; what < 6; what++) {
            check.due("set(" + what + ", 7)", x.set(what, 7), was[what]);
        }
        for (int what = 0; what < 6; what++) {
            check.due("set(" + what + ", 7) again", x.set(what, 7), 7);
            check.due("set(" + what + ", 8)", x.set(what, 8), 7);
        }
        check.same("a number set to what it is", y -> {
            Plays.busy(y);
            y.set(0, 7);
        }, Plays::busy);
    }

    private static void noSuchNumber(Check check) {
        for (int what : new int[] {-1, 6, Plays.MIN, Plays.MAX}) {
            check.refused("set(" + what + ", 1)", Plays::none, x -> x.set(what, 1), -2);
            check.refused("set(" + what + ", 1)", Plays::busy, x -> x.set(what, 1), -2);
        }
        for (int what = 0; what < 6; what++) {
            int number = what;
            check.refused("set(" + what + ", 1001)", Plays::busy, x -> x.set(number, 1001), -2);
            check.refused("set(" + what + ", -2)", Plays::busy, x -> x.set(number, -2), -2);
        }
    }

    private static void edges(Check check, int what, int first, int least, int most) {
        LinePool x = new LinePool();
        check.due("at first", x.set(what, least), first);
        check.due("the least", x.set(what, most), least);
        check.due("the most", x.set(what, first), most);
        for (int v : new int[] {least - 1, most + 1, Plays.MIN, Plays.MAX}) {
            check.refused("set(" + what + ", " + v + ")", Plays::none, y -> y.set(what, v), -2);
            check.refused("set(" + what + ", " + v + ")", Plays::busy, y -> y.set(what, v), -2);
        }
    }

    /** A quick pool with the number set, or left as it is at first where v is none that it can be. */
    private static LinePool with(int what, int v) {
        LinePool x = new LinePool();
        int[] quick = {12, 0, -1, 1000, 1000, 1};
        for (int i = 0; i < 6; i++) {
            if (i != what) {
                x.set(i, quick[i]);
            }
        }
        x.set(what, v);
        return x;
    }

    private static final int FIRST = Plays.MIN;

    private static void size(Check check) {
        edges(check, 0, 4, 1, 12);
        int[][] linesOf = {{1, 1}, {12, 12}, {FIRST, 4}};
        for (int[] row : linesOf) {
            LinePool x = with(0, row[0]);
            Plays.comers(x, 20, 1000, 1000, 1);
            x.run(1);
            check.count(x, 4, row[1]);
            x.run(9);
            check.count(x, 4, row[1]);
            check.count(x, 6, row[1]);
        }
    }

    private static void open(Check check) {
        edges(check, 1, 2, 0, 20);
        LinePool none = with(1, 0);
        none.run(1);
        check.slot(none, 0, 2, 0, -1, 0, 1);
        int[][] ticksOf = {{1, 1}, {20, 20}, {FIRST, 2}};
        for (int[] row : ticksOf) {
            LinePool x = with(1, row[0]);
            x.run(1);
            check.slot(x, 0, 1, 0, -1, row[1], 0);
            x.run(row[1] - 1);
            check.slot(x, 0, 1, 0, -1, 1, 0);
            x.run(1);
            check.slot(x, 0, 2, 0, -1, 0, 1 + row[1]);
        }
    }

    private static void tries(Check check) {
        edges(check, 2, 1, -1, 20);
        int[][] triesOf = {{-1, 0}, {0, 1}};
        for (int[] row : triesOf) {
            LinePool x = with(2, row[0]);
            x.caller(0, 0, 0, 1000, 2);
            x.run(2);
            check.slot(x, 0, 4, 0, 0, 0, 2);
            check.count(x, 11, row[1]);
        }
        int[][] ticksOf = {{1, 1}, {20, 20}, {FIRST, 1}};
        for (int[] row : ticksOf) {
            LinePool x = with(2, row[0]);
            x.caller(0, 0, 0, 1000, 2);
            x.run(2);
            check.slot(x, 0, 3, 0, 0, row[1], 0);
            x.run(row[1] - 1);
            check.slot(x, 0, 3, 0, 0, 1, 0);
            x.run(1);
            check.slot(x, 0, 4, 0, 0, 0, 2 + row[1]);
            check.count(x, 11, 1);
        }
    }

    private static void leak(Check check) {
        edges(check, 3, 100, 1, 1000);
        int[][] ticksOf = {{1, 1}, {2, 2}, {1000, 1000}, {FIRST, 100}};
        for (int[] row : ticksOf) {
            LinePool x = with(3, row[0]);
            x.caller(1, 0, 0, 1, 2);
            Plays.runTo(x, 1 + row[1]);
            check.slot(x, 0, 4, 0, 0, 0, 2);
            x.run(1);
            check.told(x, 0, 7, 0, 0, 2);
            check.slot(x, 0, 2, 0, -1, 0, 2 + row[1]);
        }
    }

    private static void rest(Check check) {
        edges(check, 4, 50, 1, 1000);
        int[][] ticksOf = {{1, 1}, {2, 2}, {1000, 1000}, {FIRST, 50}};
        for (int[] row : ticksOf) {
            LinePool x = with(4, row[0]);
            x.run(1);
            x.set(5, 0);
            Plays.runTo(x, row[1]);
            check.slot(x, 0, 2, 0, -1, 0, 1);
            x.run(1);
            check.slot(x, 0, 0, 0, -1, 0, 0);
        }
    }

    private static void warm(Check check) {
        edges(check, 5, 1, 0, 12);
        int[][] linesOf = {{0, 0}, {1, 1}, {12, 12}, {FIRST, 1}};
        for (int[] row : linesOf) {
            LinePool x = with(5, row[0]);
            x.run(1);
            check.count(x, 4, row[1]);
            x.run(9);
            check.count(x, 4, row[1]);
        }
    }

    private static void speedEdges(Check check) {
        for (int k : new int[] {1, 12}) {
            for (int v : new int[] {1, 100}) {
                LinePool x = new LinePool();
                check.due("speed(" + k + ", " + v + ")", x.speed(k, v), true);
                int[] speeds = Plays.speedsAtWork(x);
                for (int i = 1; i <= 12; i++) {
                    check.due("the speed of " + i + " behind that", speeds[i - 1], i == k ? v : 10);
                }
            }
            for (int v : new int[] {-1, 0, 101, Plays.MIN, Plays.MAX}) {
                check.refused("speed(" + k + ", " + v + ")", Plays::busy, x -> x.speed(k, v) ? 1 : 0, 0);
            }
        }
        for (int k : new int[] {-1, 0, 13, 60, Plays.MIN, Plays.MAX}) {
            check.refused("speed(" + k + ", 50)", Plays::none, x -> x.speed(k, 50) ? 1 : 0, 0);
            check.refused("speed(" + k + ", 50)", Plays::busy, x -> x.speed(k, 50) ? 1 : 0, 0);
        }
    }

    private static void speedsOfEach(Check check) {
        int[] first = Plays.speedsAtWork(new LinePool());
        LinePool x = new LinePool();
        for (int k = 1; k <= 12; k++) {
            check.due("the first speed of " + k, first[k - 1], 10);
            check.due("speed(" + k + ", " + 8 * k + ")", x.speed(k, 8 * k), true);
        }
        int[] told = Plays.speedsAtWork(x);
        for (int k = 1; k <= 12; k++) {
            check.due("the speed of " + k, told[k - 1], 8 * k);
        }
    }

    /** There are twelve slots, so that a thirteenth never is at work: twelve do that of 12. */
    private static void moreThanTwelve(Check check) {
        LinePool x = Plays.quick(12, -1, 12);
        x.speed(11, 3);
        x.speed(12, 7);
        Plays.comers(x, 60, 1000, 1000, 2);
        x.run(3);
        check.count(x, 3, 12);
        check.count(x, 2, 48);
        check.told(x, 0, 3, 993, 1, 2);
        check.told(x, 11, 3, 993, 1, 2);
        check.told(x, 12, 1, 1000, 0, 2);
    }
}
