/** Promise 6 (run): how many TICKS pass, and what the call answers. */
public final class RunTest {
    private static final String RUN = "Promise 6: run";

    private RunTest() {
    }

    public static void main(String[] args) {
        Sentences all = new Sentences("RunTest");
        all.hold(RUN, "n TICKS (0 .. 500)", RunTest::ticks);
        all.hold(RUN, "how many CALLERS were DONE in these.", RunTest::doneInThese);
        all.hold(RUN, "NONE for another n.", RunTest::anotherN);
        all.hold(RUN, "A TICK, in this order:", RunTest::inThisOrder);
        all.hold(RUN, "An object is used for at most 512 calls after it has been made", RunTest::lastCalls);
        all.end();
    }

    private static void ticks(Check check) {
        LinePool x = new LinePool();
        check.due("run(0)", x.run(0), 0);
        check.count(x, 0, 0);
        check.count(x, 17, 0);
        check.due("run(1)", x.run(1), 0);
        check.count(x, 0, 1);
        check.due("run(500)", x.run(500), 0);
        check.count(x, 0, 501);
        check.due("run(499)", x.run(499), 0);
        check.count(x, 0, 1000);
        check.same("run(0)", y -> {
            Plays.busy(y);
            check.due("run(0)", y.run(0), 0);
        }, Plays::busy);
        check.same("run(3) and run(2) against run(5)", y -> {
            Plays.busy(y);
            y.run(3);
            y.run(2);
        }, y -> {
            Plays.busy(y);
            y.run(5);
        });

        // as many as one by one
        LinePool atOnce = new LinePool();
        Plays.comers(atOnce, 5, 500, 450, 30);
        int done = atOnce.run(450);
        LinePool oneByOne = new LinePool();
        Plays.comers(oneByOne, 5, 500, 450, 30);
        int sum = 0;
        for (int i = 0; i < 450; i++) {
            sum += oneByOne.run(1);
        }
        check.due("the sum of 450 runs", sum, done);
        check.due("run(450)", done, 5);
        for (int what = 0; what <= 17; what++) {
            check.due("count(" + what + ")", oneByOne.count(what), atOnce.count(what));
        }
    }

    /** Beside those who are done: one fails, one leaks, one holds, one gives up. */
    private static void doneInThese(Check check) {
        LinePool x = Plays.quick(5, -1, 5);
        x.caller(0, 0, 0, 20, 2);
        x.caller(2, 1, 0, 10, 2);
        x.caller(0, 2, 0, 500, 2);
        x.caller(1, 3, 0, 10, 2);
        x.caller(0, 9, 0, 10, 2);
        x.caller(0, 9, 0, 10, 2);
        x.broken(4, 2);
        check.due("run(2)", x.run(2), 0);
        check.due("run(1): the one of rank 9", x.run(1), 1);
        check.due("run(1): the plain and the nested one", x.run(1), 2);
        check.count(x, 7, 3);
        check.count(x, 8, 1);
        check.count(x, 10, 1);
        check.due("run(500)", x.run(500), 0);
        x.set(3, 1);
        check.due("run(1): one leaks", x.run(1), 0);
        check.count(x, 9, 1);
        check.count(x, 7, 3);
        check.due("run(0) is none of the earlier ones", x.run(0), 0);
    }

    private static void anotherN(Check check) {
        for (int n : new int[] {-1, 501, Plays.MIN, Plays.MAX}) {
            check.refused("run(" + n + ")", Plays::none, x -> x.run(n), -1);
            check.refused("run(" + n + ")", Plays::busy, x -> x.run(n), -1);
        }
    }

    private static int[] row(int number, int tick, int caller, int slot) {
        return Check.row(number, tick, caller, slot);
    }

    /** What one step leaves is what the next one finds, in the same tick. */
    private static void inThisOrder(Check check) {
        // 1, 2: it breaks ahead of the end of its try; 2, 6: its caller waits again, and tries the next
        LinePool tried = Plays.quick(2, 1, 2);
        tried.caller(0, 0, 9, 100, 2);
        tried.broken(3, 0);
        tried.run(3);
        check.latestEvents(tried, row(8, 2, 0, 0), row(7, 3, -1, 0), row(8, 3, 0, 1), row(6, 3, -1, 0));
        // 2, 3: it is lent ahead of the work, which one tick does
        LinePool lent = Plays.quick(1, 1, 1);
        lent.caller(0, 0, 9, 10, 2);
        lent.run(3);
        check.latestEvents(lent, row(8, 2, 0, 0), row(1, 3, 0, 0), row(2, 3, 0, -1));
        // 3, 4, 5: one fails, one is done, one leaks, one comes, one gives up
        LinePool ends = Plays.quick(3, -1, 3);
        ends.set(3, 2);
        ends.caller(1, 0, 9, 10, 2);
        ends.caller(0, 0, 9, 20, 2);
        ends.caller(0, 0, 9, 100, 2);
        ends.caller(0, 1, 1, 100, 2);
        ends.caller(0, 2, 9, 100, 4);
        ends.broken(4, 2);
        ends.run(4);
        check.latestEvents(ends, row(3, 4, 2, -1), row(7, 4, -1, 2), row(2, 4, 1, -1), row(4, 4, 0, -1),
            row(0, 4, 4, -1), row(5, 4, 3, -1), row(1, 4, 4, 0), row(6, 4, -1, 2));
        // 6, 7: a line that has rested is lent, and so not gone
        LinePool rested = Plays.quick(1, -1, 1);
        rested.set(4, 3);
        rested.run(1);
        rested.set(5, 0);
        rested.caller(0, 0, 9, 100, 4);
        rested.run(3);
        check.slot(rested, 0, 4, 0, 0, 0, 4);
        // 7: the one that has rested goes ahead of the last one, and then there are no more than SIZE
        LinePool surplus = Plays.quick(4, -1, 4);
        surplus.set(4, 3);
        surplus.caller(0, 0, 9, 10, 2);
        Plays.comers(surplus, 3, 9, 30, 2);
        surplus.run(5);
        surplus.set(0, 3);
        surplus.set(5, 0);
        surplus.run(1);
        check.latestEvents(surplus, row(2, 5, 3, -1), row(7, 6, -1, 0));
        check.slot(surplus, 0, 0);
        check.slot(surplus, 3, 2, 0, -1, 0, 5);
    }

    private static void lastCalls(Check check) {
        LinePool x = new LinePool();
        x.caller(0, 0, 10, 10, 1);
        int done = 0;
        for (int i = 0; i < 510; i++) {
            done += x.run(500);
        }
        check.due("the 512th call, count(0)", x.count(0), 255000);
        check.due("done", done, 1);

        LinePool y = new LinePool();
        for (int i = 0; i < 511; i++) {
            check.due("call " + i, y.caller(0, 0, 0, 1 + i, 5000), i < 60 ? i : -1);
        }
        check.due("the 512th call, told(59, 1)", y.told(59, 1), 60);
    }
}
