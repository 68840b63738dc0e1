/** Promises 6 (run), 8 (count), 9 (slot), 10 (told) and 11 (event): a TICK, step by step. */
public final class TickTest {
    private TickTest() {
    }

    public static void main(String[] args) {
        Check check = new Check("TickTest");
        runNumbers(check);
        openingAndBreaks(check);
        tryThatHolds(check);
        tryThatFails(check);
        tryThatFailsTooLate(check);
        tryAtOnce(check);
        noTries(check);
        nestedDone(check);
        nestedFails(check);
        nestedGivesUp(check);
        nestedLeaksWhileTrying(check);
        leakingHolds(check);
        workerLeaks(check);
        doneAheadOfLeaked(check);
        failedDoNotSlowTheOthers(check);
        failedOneByOne(check);
        rankAndFreshestLine(check);
        comesAheadOfGivingUp(check);
        restedLinesGo(check);
        surplusLinesGo(check);
        linesWanted(check);
        check.end();
    }

    /** Lines open at once, no line is kept for nobody, none rests too long. */
    private static LinePool pool(int size, int tryTicks, int warm) {
        LinePool x = new LinePool();
        x.set(0, size);
        x.set(1, 0);
        x.set(2, tryTicks);
        x.set(3, 1000);
        x.set(4, 1000);
        x.set(5, warm);
        return x;
    }

    private static int[] row(int number, int tick, int caller, int slot) {
        return Check.row(number, tick, caller, slot);
    }

    private static void runNumbers(Check check) {
        LinePool x = pool(1, -1, 0);
        check.due("run(0)", x.run(0), 0);
        check.due("tick after run(0)", x.count(0), 0);
        for (int n : new int[] {Integer.MIN_VALUE, -1, 501, Integer.MAX_VALUE}) {
            check.due("run(" + n + ")", x.run(n), -1);
        }
        check.due("tick after refused runs", x.count(0), 0);
        x.caller(0, 0, 1000, 10, 1);
        x.caller(0, 0, 1000, 10, 1);
        x.caller(0, 0, 1000, 10, 400);
        check.due("run(500)", x.run(500), 3);
        check.due("tick", x.count(0), 500);
        check.due("run(500) with none left", x.run(500), 0);
        check.due("done in all", x.count(7), 3);
        for (int what : new int[] {Integer.MIN_VALUE, -1, 18, Integer.MAX_VALUE}) {
            check.due("count(" + what + ")", x.count(what), -1);
        }
        for (int what : new int[] {Integer.MIN_VALUE, -1, 5, Integer.MAX_VALUE}) {
            check.due("slot(0, " + what + ")", x.slot(0, what), -1);
        }
        for (int s : new int[] {Integer.MIN_VALUE, -1, 12, Integer.MAX_VALUE}) {
            check.due("slot(" + s + ", 0)", x.slot(s, 0), -1);
        }
    }

    private static void openingAndBreaks(Check check) {
        LinePool x = new LinePool();
        x.broken(1, 0);
        x.broken(3, 0);
        x.broken(3, 5);
        x.run(1);
        check.slot(x, 0, 1, 0, -1, 2, 0);
        check.due("lines", x.count(4), 1);
        check.due("idle", x.count(5), 0);
        check.due("opened", x.count(12), 1);
        x.run(1);
        check.slot(x, 0, 1, 0, -1, 1, 0);
        x.run(1);
        check.slot(x, 0, 2, 1, -1, 0, 3);
        check.slot(x, 5, 0, 0, -1, 0, 0);
        check.due("idle", x.count(5), 1);
        check.allEvents(x, row(6, 1, -1, 0));
    }

    private static void tryThatHolds(Check check) {
        LinePool x = pool(1, 2, 0);
        x.caller(0, 4, 9, 25, 3);
        x.run(3);
        check.slot(x, 0, 2, 0, -1, 0, 3);
        check.told(x, 0, 1, 25, 0, 3, 0, 4);
        check.due("waiting", x.count(2), 1);
        x.run(1);
        check.slot(x, 0, 3, 0, 0, 2, 0);
        check.told(x, 0, 2, 25, 0, 3);
        check.due("waiting", x.count(2), 0);
        check.due("tries", x.count(11), 1);
        check.due("waits", x.count(15), 0);
        x.run(1);
        check.slot(x, 0, 3, 0, 0, 1, 0);
        x.run(1);
        check.slot(x, 0, 4, 0, 0, 0, 6);
        check.told(x, 0, 3, 15, 1, 3);
        check.due("at work", x.count(3), 1);
        check.due("lent", x.count(6), 1);
        check.due("sum of waits", x.count(14), 3);
        check.due("waits", x.count(15), 1);
        check.due("longest wait", x.count(16), 3);
        check.due("run(2)", x.run(2), 1);
        check.told(x, 0, 5, 0, 0, 3);
        check.slot(x, 0, 2, 0, -1, 0, 8);
        check.allEvents(x, row(0, 3, 0, -1), row(6, 3, -1, 0), row(8, 4, 0, 0), row(1, 6, 0, 0), row(2, 8, 0, -1));
    }

    private static void tryThatFails(Check check) {
        LinePool x = pool(1, 2, 0);
        x.caller(0, 0, 4, 100, 1);
        x.broken(3, 0);
        x.run(3);
        check.slot(x, 0, 3, 1, 0, 1, 0);
        x.run(1);
        check.told(x, 0, 1, 100, 0, 1);
        check.slot(x, 0, 2, 0, -1, 0, 4);
        x.run(1);
        check.told(x, 0, 2, 100, 0, 1);
        x.run(2);
        check.told(x, 0, 3, 90, 1, 1);
        check.due("sum of waits", x.count(14), 6);
        check.due("tries", x.count(11), 2);
        check.due("opened", x.count(12), 2);
        check.due("gone", x.count(13), 1);
        check.allEvents(x, row(0, 1, 0, -1), row(6, 1, -1, 0), row(8, 2, 0, 0), row(7, 4, -1, 0),
            row(6, 4, -1, 0), row(8, 5, 0, 0), row(1, 7, 0, 0));
    }

    /** It waits on as long as before, and so gives up in the tick in which the try fails. */
    private static void tryThatFailsTooLate(Check check) {
        LinePool x = pool(1, 2, 0);
        x.caller(0, 0, 2, 100, 1);
        x.broken(3, 0);
        x.run(4);
        check.told(x, 0, 8, 100, 0, 1);
        check.due("up", x.count(10), 1);
        check.due("lines", x.count(4), 0);
        check.latestEvents(x, row(8, 2, 0, 0), row(7, 4, -1, 0), row(5, 4, 0, -1));
    }

    private static void tryAtOnce(Check check) {
        LinePool x = pool(2, 0, 2);
        x.broken(2, 0);
        x.caller(0, 0, 9, 100, 3);
        x.run(3);
        check.told(x, 0, 3, 100, 1, 3);
        check.slot(x, 1, 4, 0, 0, 0, 3);
        check.slot(x, 0, 2, 0, -1, 0, 3);
        check.due("tries", x.count(11), 2);
        check.due("waits", x.count(15), 1);
        check.due("longest wait", x.count(16), 0);
        check.allEvents(x, row(6, 1, -1, 0), row(6, 1, -1, 1), row(0, 3, 0, -1), row(7, 3, -1, 0),
            row(1, 3, 0, 1), row(6, 3, -1, 0));

        LinePool y = pool(1, 0, 1);
        y.broken(2, 0);
        y.caller(0, 0, 9, 100, 2);
        y.run(2);
        check.told(y, 0, 1, 100, 0, 2);
        check.due("tries", y.count(11), 1);
        check.latestEvents(y, row(0, 2, 0, -1), row(7, 2, -1, 0), row(6, 2, -1, 0));
    }

    private static void noTries(Check check) {
        LinePool x = pool(2, -1, 2);
        x.broken(2, 0);
        x.caller(0, 0, 9, 100, 3);
        x.run(3);
        check.told(x, 0, 3, 100, 1, 3);
        check.slot(x, 0, 4, 1, 0, 0, 3);
        x.run(1);
        check.told(x, 0, 6, 100, 0, 3);
        check.due("tries", x.count(11), 0);
        check.due("failed", x.count(8), 1);
        check.latestEvents(x, row(1, 3, 0, 0), row(3, 4, 0, -1), row(7, 4, -1, 0), row(6, 4, -1, 0));
    }

    private static LinePool nestedWithBoth() {
        LinePool x = pool(3, -1, 0);
        x.caller(2, 0, 100, 10, 1);
        x.run(3);
        return x;
    }

    private static void nestedDone(Check check) {
        LinePool x = nestedWithBoth();
        check.told(x, 0, 1, 10, 1, 3);
        check.slot(x, 0, 4, 0, 0, 0, 2);
        check.slot(x, 1, 2, 0, -1, 0, 3);
        x.run(1);
        check.told(x, 0, 3, 10, 2, 3);
        check.slot(x, 0, 4, 0, 0, 0, 2);
        check.slot(x, 1, 4, 0, 0, 0, 4);
        check.due("waits", x.count(15), 1);
        check.due("sum of waits", x.count(14), 1);
        check.due("run(1)", x.run(1), 1);
        check.told(x, 0, 5, 0, 0, 3);
        check.slot(x, 0, 2, 0, -1, 0, 5);
        check.slot(x, 1, 2, 0, -1, 0, 5);
        check.allEvents(x, row(0, 1, 0, -1), row(6, 1, -1, 0), row(1, 2, 0, 0), row(6, 3, -1, 1),
            row(1, 4, 0, 1), row(2, 5, 0, -1));
    }

    private static void nestedFails(Check check) {
        LinePool x = nestedWithBoth();
        x.broken(5, 1);
        x.run(2);
        check.told(x, 0, 6, 10, 0, 3);
        check.slot(x, 0, 2, 0, -1, 0, 5);
        check.slot(x, 1, 0, 0, -1, 0, 0);
        check.latestEvents(x, row(1, 4, 0, 1), row(3, 5, 0, -1), row(7, 5, -1, 1));

        LinePool y = nestedWithBoth();
        y.broken(5, 0);
        y.broken(5, 1);
        y.run(2);
        check.due("lines", y.count(4), 0);
        check.latestEvents(y, row(3, 5, 0, -1), row(7, 5, -1, 0), row(7, 5, -1, 1));

        // its first line breaks while it waits, which it does not see until it works again
        LinePool z = nestedWithBoth();
        z.broken(4, 0);
        z.run(1);
        check.told(z, 0, 3, 10, 2, 3);
        check.slot(z, 0, 4, 1, 0, 0, 2);
        z.run(1);
        check.told(z, 0, 6, 10, 0, 3);
        check.slot(z, 1, 2, 0, -1, 0, 5);
    }

    private static void nestedGivesUp(Check check) {
        LinePool x = pool(1, -1, 0);
        x.caller(2, 0, 1, 10, 1);
        x.run(4);
        check.told(x, 0, 1, 10, 1, 3);
        x.broken(5, 0);
        x.run(1);
        check.told(x, 0, 8, 10, 0, 3);
        check.slot(x, 0, 2, 1, -1, 0, 5);
        check.due("up", x.count(10), 1);
        check.latestEvents(x, row(1, 2, 0, 0), row(5, 5, 0, -1));
    }

    private static void nestedLeaksWhileTrying(Check check) {
        LinePool x = pool(2, 3, 0);
        x.set(3, 3);
        x.caller(2, 0, 100, 10, 1);
        x.run(5);
        check.told(x, 0, 1, 10, 1, 5);
        x.run(1);
        check.told(x, 0, 2, 10, 1, 5);
        check.slot(x, 1, 3, 0, 0, 3, 0);
        x.run(1);
        check.due("leaked", x.count(9), 0);
        x.run(1);
        check.told(x, 0, 7, 10, 0, 5);
        check.slot(x, 0, 2, 0, -1, 0, 8);
        check.slot(x, 1, 2, 0, -1, 0, 8);
        check.due("leaked", x.count(9), 1);
        check.due("tries", x.count(11), 2);
        check.due("sum of waits", x.count(14), 4);
        check.latestEvents(x, row(8, 6, 0, 1), row(4, 8, 0, -1));
    }

    private static void leakingHolds(Check check) {
        LinePool x = pool(1, -1, 1);
        x.set(3, 5);
        x.caller(1, 0, 0, 10, 2);
        x.broken(4, 0);
        x.run(3);
        check.told(x, 0, 4, 0, 1, 2);
        check.due("at work", x.count(3), 0);
        x.run(3);
        check.told(x, 0, 4, 0, 1, 2);
        check.slot(x, 0, 4, 1, 0, 0, 2);
        check.due("run(1)", x.run(1), 0);
        check.told(x, 0, 7, 0, 0, 2);
        check.slot(x, 0, 2, 1, -1, 0, 7);
        check.allEvents(x, row(6, 1, -1, 0), row(0, 2, 0, -1), row(1, 2, 0, 0), row(4, 7, 0, -1));
    }

    private static void workerLeaks(Check check) {
        LinePool x = pool(1, -1, 1);
        x.set(3, 2);
        x.caller(0, 0, 0, 1000, 2);
        x.run(3);
        check.told(x, 0, 3, 990, 1, 2);
        x.run(1);
        check.told(x, 0, 7, 980, 0, 2);
        check.slot(x, 0, 2, 0, -1, 0, 4);
    }

    private static void doneAheadOfLeaked(Check check) {
        LinePool x = pool(3, -1, 3);
        x.set(3, 2);
        x.caller(1, 0, 0, 10, 2);
        x.caller(0, 0, 0, 20, 2);
        x.caller(0, 0, 0, 21, 2);
        check.due("run(4)", x.run(4), 1);
        check.told(x, 0, 7, 0, 0, 2);
        check.told(x, 1, 5, 0, 0, 2);
        check.told(x, 2, 7, 1, 0, 2);
        check.latestEvents(x, row(1, 2, 2, 2), row(2, 4, 1, -1), row(4, 4, 0, -1), row(4, 4, 2, -1));
    }

    private static void failedDoNotSlowTheOthers(Check check) {
        LinePool x = pool(2, -1, 2);
        x.speed(1, 3);
        x.speed(2, 7);
        x.caller(0, 0, 0, 100, 2);
        x.caller(0, 0, 0, 100, 2);
        x.broken(4, 0);
        x.run(3);
        check.told(x, 1, 3, 93, 1, 2);
        x.run(1);
        check.told(x, 0, 6, 93, 0, 2);
        check.told(x, 1, 3, 90, 1, 2);
    }

    private static void failedOneByOne(Check check) {
        LinePool x = pool(2, -1, 2);
        x.caller(0, 5, 0, 100, 2);
        x.caller(0, 3, 0, 100, 2);
        x.broken(3, 0);
        x.broken(3, 1);
        x.run(3);
        check.latestEvents(x, row(0, 2, 0, -1), row(0, 2, 1, -1), row(1, 2, 1, 0), row(1, 2, 0, 1),
            row(3, 3, 0, -1), row(7, 3, -1, 1), row(3, 3, 1, -1), row(7, 3, -1, 0),
            row(6, 3, -1, 0), row(6, 3, -1, 1));
    }

    private static void rankAndFreshestLine(Check check) {
        LinePool x = pool(3, -1, 3);
        x.caller(0, 0, 9, 10, 2);
        x.caller(0, 0, 9, 20, 2);
        x.run(4);
        check.slot(x, 0, 2, 0, -1, 0, 3);
        check.slot(x, 1, 2, 0, -1, 0, 4);
        check.slot(x, 2, 2, 0, -1, 0, 1);
        x.caller(0, 9, 9, 100, 5);
        x.caller(0, 5, 9, 100, 5);
        x.caller(0, 5, 9, 100, 5);
        x.caller(0, 9, 9, 100, 5);
        x.run(1);
        check.latestEvents(x, row(0, 5, 5, -1), row(1, 5, 3, 1), row(1, 5, 4, 0), row(1, 5, 2, 2));
        check.told(x, 5, 1, 100, 0, 5);
    }

    private static void comesAheadOfGivingUp(Check check) {
        LinePool x = pool(1, -1, 0);
        x.caller(1, 0, 9, 1, 1);
        x.caller(0, 0, 0, 1, 3);
        x.caller(0, 0, 1, 1, 4);
        x.run(3);
        check.told(x, 1, 1, 1, 0, 3);
        x.run(1);
        check.told(x, 1, 8, 1, 0, 3);
        check.latestEvents(x, row(0, 4, 2, -1), row(5, 4, 1, -1));
        x.run(1);
        check.told(x, 2, 1, 1, 0, 4);
        x.run(1);
        check.told(x, 2, 8, 1, 0, 4);
    }

    private static void restedLinesGo(Check check) {
        LinePool x = pool(12, -1, 12);
        x.set(4, 3);
        x.run(1);
        check.due("lines", x.count(4), 12);
        x.set(5, 5);
        x.run(2);
        check.due("lines ahead of rest", x.count(4), 12);
        x.run(1);
        check.due("lines", x.count(4), 5);
        check.due("gone", x.count(13), 7);
        check.slot(x, 6, 0);
        check.slot(x, 7, 2, 0, -1, 0, 1);
        check.latestEvents(x, row(7, 4, -1, 0), row(7, 4, -1, 1), row(7, 4, -1, 2), row(7, 4, -1, 3),
            row(7, 4, -1, 4), row(7, 4, -1, 5), row(7, 4, -1, 6));
        x.set(5, 8);
        x.run(1);
        check.due("lines", x.count(4), 8);
        check.latestEvents(x, row(6, 5, -1, 0), row(6, 5, -1, 1), row(6, 5, -1, 2));

        // a rested line stays while a fresh one ahead of it is passed over
        LinePool y = pool(2, -1, 2);
        y.set(4, 5);
        y.caller(0, 0, 9, 10, 4);
        y.run(5);
        check.slot(y, 0, 2, 0, -1, 0, 5);
        y.set(5, 1);
        y.run(1);
        check.slot(y, 0, 2, 0, -1, 0, 5);
        check.slot(y, 1, 0);
    }

    private static void surplusLinesGo(Check check) {
        LinePool x = pool(4, -1, 4);
        x.run(1);
        x.set(0, 2);
        x.run(1);
        check.latestEvents(x, row(7, 2, -1, 3), row(7, 2, -1, 2));
        check.due("lines", x.count(4), 2);

        // lent lines stay, however small the size
        LinePool y = pool(4, -1, 4);
        y.run(1);
        for (int i = 0; i < 3; i++) {
            y.caller(0, 0, 9, 1000, 2);
        }
        y.run(1);
        y.set(0, 1);
        y.run(1);
        check.due("lines", y.count(4), 3);
        check.due("lent", y.count(6), 3);
        check.latestEvents(y, row(1, 2, 2, 2), row(7, 3, -1, 3));

        // from the very last slot to the very first
        LinePool z = pool(12, -1, 12);
        z.run(1);
        z.set(0, 11);
        z.run(1);
        check.latestEvents(z, row(7, 2, -1, 11));
        for (int i = 0; i < 11; i++) {
            z.caller(0, 0, 9, i == 0 ? 10 : 1000, 3);
        }
        z.set(0, 10);
        z.run(2);
        check.latestEvents(z, row(1, 3, 10, 10), row(2, 4, 0, -1), row(7, 4, -1, 0));
        check.due("lines", z.count(4), 10);
    }

    private static void linesWanted(Check check) {
        // those that open already are lines too, and no more are opened than the size
        LinePool x = new LinePool();
        x.set(0, 5);
        x.set(5, 0);
        x.set(1, 3);
        x.caller(0, 0, 99, 100, 1);
        x.caller(0, 0, 99, 100, 1);
        x.run(1);
        check.due("lines", x.count(4), 2);
        x.run(1);
        check.due("lines", x.count(4), 2);
        for (int i = 0; i < 7; i++) {
            x.caller(0, 0, 99, 100, 3);
        }
        x.run(1);
        check.due("lines", x.count(4), 5);
        check.due("opened", x.count(12), 5);
        x.run(1);
        check.due("idle taken for a try", x.count(11), 2);
        check.slot(x, 0, 3, 0, 0, 1, 0);
        check.slot(x, 4, 1, 0, -1, 2, 0);

        // a line lent and one that waits want two, warm or not
        LinePool y = pool(12, -1, 1);
        y.caller(0, 0, 99, 1000, 2);
        y.run(2);
        check.due("lines", y.count(4), 1);
        y.caller(0, 0, 99, 1000, 3);
        y.run(1);
        check.due("lines", y.count(4), 2);

        // a line that is tried is in use, too
        LinePool t = pool(12, 5, 0);
        t.caller(0, 0, 99, 1000, 1);
        t.caller(0, 0, 99, 1000, 3);
        t.run(3);
        check.slot(t, 0, 3, 0, 0, 4, 0);
        check.due("lines", t.count(4), 2);

        // one tick to open is not none
        LinePool o = pool(1, -1, 1);
        o.set(1, 1);
        o.run(1);
        check.slot(o, 0, 1, 0, -1, 1, 0);
        o.run(1);
        check.slot(o, 0, 2, 0, -1, 0, 2);

        // more are kept warm than the size allows: the size holds
        LinePool z = pool(3, -1, 12);
        z.run(2);
        check.due("lines", z.count(4), 3);
    }
}
