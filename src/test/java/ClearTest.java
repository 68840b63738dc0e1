/** Promise 7 (clear): all as new, but numbers and speeds. */
public final class ClearTest {
    private static final String CLEAR = "Promise 7: clear";

    private ClearTest() {
    }

    public static void main(String[] args) {
        Sentences all = new Sentences("ClearTest");
        all.hold(CLEAR, "All as behind the constructor", ClearTest::allAsNew);
        all.hold(CLEAR, "All as behind the constructor, but NUMBERS and SPEEDS.", ClearTest::numbersAndSpeedsKept);
        all.hold(CLEAR, "TICK 0, no LINES, CALLERS, BREAKS, CROWD.", ClearTest::nothingThere);
        all.hold(CLEAR, "no LINES", ClearTest::everyLine);
        all.hold(CLEAR, "no LINES, CALLERS", ClearTest::callerAsNew);
        all.end();
    }

    private static void allAsNew(Check check) {
        check.same("clear of a new object", LinePool::clear, Plays::none);
        check.same("clear of a full one", x -> {
            Plays.full(x);
            x.clear();
        }, Plays::none);
        check.same("clear twice", x -> {
            Plays.full(x);
            x.clear();
            x.clear();
        }, Plays::none);
        check.same("the same behind clear", x -> {
            x.caller(2, 3, 9, 20, 1);
            x.broken(9, 0);
            x.crowd(3);
            x.run(20);
            x.clear();
            Plays.busy(x);
        }, Plays::busy);
        check.same("clear of one whose log has come round", x -> {
            Plays.quicken(x, 12, -1, 12);
            for (int i = 0; i < 16; i++) {
                x.set(0, i % 2 == 0 ? 12 : 1);
                x.run(1);
            }
            check.due("whether more events came than are kept", x.count(17) > 150, true);
            x.clear();
        }, x -> Plays.quicken(x, 1, -1, 12));
    }

    private static void numbersAndSpeedsKept(Check check) {
        check.same("clear of a busy one", x -> {
            Plays.busy(x);
            x.clear();
        }, Plays::busySettings);

        LinePool x = new LinePool();
        Plays.busy(x);
        x.clear();
        int[] numbers = {7, 3, 2, 30, 40, 6};
        for (int what = 0; what < 6; what++) {
            check.due("number " + what, x.set(what, numbers[what]), numbers[what]);
        }
        int[] speeds = Plays.speedsAtWork(x);
        for (int k = 1; k <= 12; k++) {
            check.due("the speed of " + k, speeds[k - 1], 14 - k);
        }
        LinePool edges = new LinePool();
        int[] most = {12, 20, 20, 1000, 1000, 12};
        for (int what = 0; what < 6; what++) {
            edges.set(what, most[what]);
        }
        edges.clear();
        for (int what = 0; what < 6; what++) {
            check.due("number " + what + ", the most", edges.set(what, 1), most[what]);
        }
    }

    private static void nothingThere(Check check) {
        LinePool x = new LinePool();
        Plays.busy(x);
        x.clear();
        for (int what = 0; what <= 17; what++) {
            check.count(x, what, 0);
        }
        for (int s = 0; s < 12; s++) {
            check.slot(x, s, 0, 0, -1, 0, 0);
        }
        for (int what = 0; what < 4; what++) {
            check.due("event(0, " + what + ")", x.event(0, what), -1);
        }
        check.toldThrows(x, 0, 0);
        check.due("states(1, 0)", x.states(1, 0), 1);
        check.due("sure()", x.sure(), 1);
        check.due("scatter()", x.scatter(), 0);
        check.due("a caller in TICK 1", x.caller(0, 0, 0, 1, 1), 0);
        check.due("a break in TICK 1", x.broken(1, 0), true);
        check.due("one of the crowd", x.crowd(1), 1);
    }

    /** Lines in all slots, all broken, and then none of that. */
    private static void everyLine(Check check) {
        LinePool x = Plays.quick(12, -1, 12);
        for (int s = 0; s < 12; s++) {
            x.broken(2, s);
        }
        x.run(2);
        for (int s = 0; s < 12; s++) {
            check.slot(x, s, 2, 1, -1, 0, 1);
        }
        x.clear();
        for (int s = 0; s < 12; s++) {
            check.slot(x, s, 0, 0, -1, 0, 0);
        }
        x.run(2);
        for (int s = 0; s < 12; s++) {
            check.slot(x, s, 2, 0, -1, 0, 1);
        }
    }

    /** What the caller of the same number was before is none of the new one. */
    private static void callerAsNew(Check check) {
        LinePool x = new LinePool();
        x.caller(2, 1, 9, 10, 1);
        x.run(5);
        check.told(x, 0, 1, 10, 1, 4, 2, 1);
        x.clear();
        check.due("the first caller", x.caller(0, 3, 9, 20, 1), 0);
        check.told(x, 0, 0, 20, 0, 0, 0, 3);
        check.due("run(6)", x.run(6), 1);
        check.count(x, 15, 1);
        x.clear();
        check.due("the first caller", x.caller(2, 3, 9, 10, 1), 0);
        check.due("run(4): the first work only", x.run(4), 0);
        check.told(x, 0, 1, 10, 1, 4, 2, 3);
    }
}
