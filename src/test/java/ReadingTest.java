import java.util.function.ToLongFunction;

/** Promises 8 (count), 9 (slot) and 10 (told). */
public final class ReadingTest {
    private static final String COUNT = "Promise 8: count";
    private static final String SLOT = "Promise 9: slot";
    private static final String TOLD = "Promise 10: told";

    private ReadingTest() {
    }

    public static void main(String[] args) {
        Sentences all = new Sentences("ReadingTest");
        all.hold(COUNT, "What 0: TICK, 1: CALLERS told, 2: WAITING, 3: at WORK, 4: LINES, 5: IDLE ones, 6: LENT ones",
            ReadingTest::countsOfNow);
        all.hold(COUNT, "7: DONE, 8: FAILED, 9: LEAKED, 10: UP", ReadingTest::countsOfEnds);
        all.hold(COUNT, "11: tries begun or (TRY 0) made", ReadingTest::countOfTries);
        all.hold(COUNT, "12: LINES opened, 13: LINES gone", ReadingTest::countsOfOpenedAndGone);
        all.hold(COUNT, "WAITS: of each LENDING of a first LINE: TICK of LENT less that in which the CALLER came.",
            ReadingTest::waitsOfFirstLines);
        all.hold(COUNT, "14: the sum of WAITS, 15: how many WAITS, 16: the longest one", ReadingTest::countsOfWaits);
        all.hold(COUNT, "17: EVENTS in all.", ReadingTest::countOfEvents);
        all.hold(COUNT, "NONE for another what.", ReadingTest::anotherCount);

        all.hold(SLOT, "what 0: 0 none, 1 OPENING, 2 IDLE, 3 TRYING, 4 LENT", ReadingTest::slotStates);
        all.hold(SLOT, "1: whether BROKEN (1, 0), 2: its CALLER (NONE)", ReadingTest::slotBrokenAndCaller);
        all.hold(SLOT, "3: TICKS to go (OPENING, TRYING; else 0)", ReadingTest::slotTicksToGo);
        all.hold(SLOT, "4: since when IDLE or LENT (else 0).", ReadingTest::slotSince);
        all.hold(SLOT, "NONE: no such SLOT, another what.", ReadingTest::noSuchSlot);

        all.hold(TOLD, "States: 0 not yet, 1 WAITING, 2 TRYING, 3 at WORK, 4 HOLDING (a LEAKING one that has worked), "
            + "5 DONE, 6 FAILED, 7 LEAKED, 8 gave UP.", ReadingTest::toldStates);
        all.hold(TOLD, "1: WORK left", ReadingTest::toldWork);
        all.hold(TOLD, "2: LINES that it has (LENT)", ReadingTest::toldLines);
        all.hold(TOLD, "3: since when WAITING (latest; 0 ahead of any)", ReadingTest::toldSince);
        all.hold(TOLD, "4: KIND, 5: RANK.", ReadingTest::toldKindAndRank);
        all.hold(TOLD, "NoSuchElementException: no such CALLER, another what.", ReadingTest::noSuchCaller);
        all.end();
    }

    private static void counts(Check check, LinePool x, long... wants) {
        for (int what = 0; what < wants.length; what++) {
            check.count(x, what, wants[what]);
        }
    }

    private static LinePool busy() {
        LinePool x = new LinePool();
        Plays.busy(x);
        return x;
    }

    /** The calls that read change nothing where they are not refused either. */
    private static void changesNothing(Check check, String call, ToLongFunction<LinePool> asked) {
        check.same(call, x -> {
            Plays.busy(x);
            asked.applyAsLong(x);
        }, Plays::busy);
    }

    private static void countsOfNow(Check check) {
        LinePool x = Plays.quick(2, 1, 0);
        counts(check, x, 0, 0, 0, 0, 0, 0, 0);
        Plays.comers(x, 3, 9, 15, 1);
        counts(check, x, 0, 3, 0, 0, 0, 0, 0);
        x.run(1);
        counts(check, x, 1, 3, 3, 0, 2, 2, 0);
        x.run(1);
        counts(check, x, 2, 3, 1, 0, 2, 0, 0);
        x.run(1);
        counts(check, x, 3, 3, 1, 2, 2, 0, 2);
        x.run(1);
        counts(check, x, 4, 3, 0, 0, 2, 1, 0);
        x.run(1);
        counts(check, x, 5, 3, 0, 1, 2, 1, 1);
        for (int what = 0; what <= 17; what++) {
            int read = what;
            changesNothing(check, "count(" + what + ")", y -> y.count(read));
        }
        // at work is one thing, a line lent another: who holds, and who waits with a line
        LinePool y = Plays.quick(2, -1, 2);
        y.caller(1, 0, 9, 10, 2);
        y.caller(2, 0, 9, 10, 2);
        y.run(3);
        counts(check, y, 3, 2, 1, 0, 2, 0, 2);
    }

    private static void countsOfEnds(Check check) {
        LinePool x = Plays.quick(4, -1, 4);
        x.set(3, 4);
        x.caller(0, 0, 9, 10, 2);
        x.caller(0, 0, 9, 500, 2);
        x.caller(1, 0, 9, 10, 2);
        x.caller(0, 0, 9, 500, 2);
        x.caller(0, 9, 0, 10, 2);
        x.broken(5, 1);
        int[][] ends = {
            {0, 0, 0, 0}, {0, 0, 0, 0}, {1, 0, 0, 1}, {1, 0, 0, 1}, {1, 1, 0, 1}, {1, 1, 2, 1}, {1, 1, 2, 1},
        };
        for (int tick = 1; tick <= 7; tick++) {
            x.run(1);
            for (int i = 0; i < 4; i++) {
                check.count(x, 7 + i, ends[tick - 1][i]);
            }
        }
    }

    private static void countOfTries(Check check) {
        int[][] tryAndTries = {{-1, 0}, {0, 2}, {1, 2}, {20, 1}};
        for (int[] row : tryAndTries) {
            LinePool x = Plays.quick(2, row[0], 2);
            x.broken(2, 0);
            x.caller(0, 0, 99, 1000, 3);
            check.count(x, 11, 0);
            x.run(3);
            check.count(x, 11, row[0] == 0 ? 2 : row[0] > 0 ? 1 : 0);
            x.run(2);
            check.count(x, 11, row[1]);
        }
    }

    private static void countsOfOpenedAndGone(Check check) {
        LinePool x = new LinePool();
        check.count(x, 12, 0);
        check.count(x, 13, 0);
        x.run(1);
        // opened when the opening begins, which is when the event says so
        check.count(x, 12, 1);
        x.run(2);
        check.count(x, 12, 1);
        x.set(5, 12);
        x.set(0, 12);
        x.run(1);
        check.count(x, 12, 12);
        check.count(x, 13, 0);
        x.run(2);
        x.set(0, 1);
        x.run(1);
        check.count(x, 12, 12);
        check.count(x, 13, 11);
    }

    private static void waitsOfFirstLines(Check check) {
        // none waits, one waits for 3, and a nested one counts once
        LinePool x = Plays.quick(2, -1, 2);
        x.caller(2, 0, 9, 10, 2);
        x.run(1);
        check.count(x, 15, 0);
        x.run(1);
        check.count(x, 15, 1);
        check.count(x, 14, 0);
        x.run(1);
        check.told(x, 0, 3, 10, 2, 3);
        check.count(x, 15, 1);
        check.count(x, 14, 0);

        LinePool late = Plays.quick(1, -1, 0);
        late.caller(2, 0, 20, 10, 1);
        late.run(9);
        check.told(late, 0, 1, 10, 1, 3);
        late.set(0, 2);
        late.run(2);
        check.told(late, 0, 3, 10, 2, 3);
        check.count(late, 15, 1);
        check.count(late, 14, 1);
        check.count(late, 16, 1);

        // who gives up has no wait, and a try counts with the ticks that it takes
        LinePool y = Plays.quick(1, 3, 1);
        y.caller(0, 0, 0, 1000, 2);
        y.caller(0, 0, 1, 1000, 2);
        y.run(4);
        check.count(y, 10, 1);
        check.count(y, 15, 0);
        y.run(1);
        check.count(y, 15, 1);
        check.count(y, 14, 3);
    }

    private static void countsOfWaits(Check check) {
        LinePool x = Plays.quick(1, -1, 1);
        x.caller(0, 0, 99, 30, 2);
        x.caller(0, 1, 99, 10, 2);
        x.caller(0, 2, 99, 10, 5);
        long[][] sumManyLongest = {{0, 0, 0}, {0, 1, 0}, {0, 1, 0}, {0, 1, 0}, {3, 2, 3}, {4, 3, 3}, {4, 3, 3}};
        for (int tick = 1; tick <= 7; tick++) {
            x.run(1);
            for (int i = 0; i < 3; i++) {
                check.count(x, 14 + i, sumManyLongest[tick - 1][i]);
            }
        }
    }

    private static void countOfEvents(Check check) {
        LinePool x = Plays.quick(12, -1, 12);
        check.count(x, 17, 0);
        x.run(1);
        check.count(x, 17, 12);
        // more than are kept
        for (int i = 1; i <= 150; i++) {
            x.set(0, i % 2 == 1 ? 11 : 12);
            x.run(1);
        }
        check.count(x, 17, 162);
    }

    private static void anotherCount(Check check) {
        LinePool x = busy();
        check.due("count(0)", x.count(0), 11);
        check.due("count(17)", x.count(17) > 0, true);
        for (int what : new int[] {-1, 18, Plays.MIN, Plays.MAX}) {
            check.refused("count(" + what + ")", Plays::none, y -> y.count(what), -1);
            check.refused("count(" + what + ")", Plays::busy, y -> y.count(what), -1);
        }
    }

    private static void slotStates(Check check) {
        LinePool x = new LinePool();
        x.caller(0, 0, 9, 30, 3);
        int[] states = {0, 1, 1, 3, 4, 4, 2};
        check.slot(x, 0, states[0]);
        for (int tick = 1; tick <= 6; tick++) {
            x.run(1);
            check.slot(x, 0, states[tick]);
            check.slot(x, 11, 0, 0, -1, 0, 0);
        }
        LinePool all = Plays.quick(12, -1, 12);
        all.run(1);
        check.slot(all, 0, 2, 0, -1, 0, 1);
        check.slot(all, 11, 2, 0, -1, 0, 1);
    }

    private static void slotBrokenAndCaller(Check check) {
        LinePool x = Plays.quick(3, 2, 3);
        check.slot(x, 0, 0, 0, -1);
        x.broken(2, 1);
        x.caller(0, 0, 9, 1000, 3);
        x.caller(1, 0, 9, 10, 3);
        x.run(2);
        check.slot(x, 0, 2, 0, -1);
        check.slot(x, 1, 2, 1, -1);
        x.run(1);
        check.slot(x, 0, 3, 0, 0);
        check.slot(x, 1, 3, 1, 1);
        check.slot(x, 2, 2, 0, -1);
        x.run(2);
        check.slot(x, 0, 4, 0, 0);
        // its line is gone, and it tries the freshest of the others
        check.told(x, 1, 2);
        check.slot(x, 1, 2, 0, -1);
        check.slot(x, 2, 3, 0, 1);
        x.run(2);
        check.told(x, 1, 4);
        check.slot(x, 2, 4, 0, 1);
    }

    private static void slotTicksToGo(Check check) {
        LinePool x = new LinePool();
        x.set(1, 3);
        x.set(2, 2);
        x.caller(0, 0, 9, 20, 4);
        int[] ticks = {0, 3, 2, 1, 2, 1, 0, 0, 0};
        int[] states = {0, 1, 1, 1, 3, 3, 4, 2, 2};
        for (int tick = 0; tick <= 8; tick++) {
            check.slot(x, 0, states[tick]);
            check.due("slot(0, 3) in tick " + tick, x.slot(0, 3), ticks[tick]);
            x.run(1);
        }
    }

    private static void slotSince(Check check) {
        LinePool x = new LinePool();
        x.set(2, 2);
        x.caller(0, 0, 9, 20, 4);
        int[] since = {0, 0, 0, 3, 0, 0, 6, 7, 7};
        int[] states = {0, 1, 1, 2, 3, 3, 4, 2, 2};
        for (int tick = 0; tick <= 8; tick++) {
            check.slot(x, 0, states[tick]);
            check.due("slot(0, 4) in tick " + tick, x.slot(0, 4), since[tick]);
            x.run(1);
        }
        x.set(5, 0);
        x.set(4, 1);
        x.run(1);
        check.slot(x, 0, 0, 0, -1, 0, 0);
    }

    private static void noSuchSlot(Check check) {
        LinePool x = busy();
        check.slot(x, 0, 3, 0, 4, 1, 0);
        check.slot(x, 11, 0, 0, -1, 0, 0);
        for (int what = 0; what < 5; what++) {
            int read = what;
            changesNothing(check, "slot(1, " + what + ")", y -> y.slot(1, read));
            for (int s : new int[] {-1, 12, Plays.MIN, Plays.MAX}) {
                check.refused("slot(" + s + ", " + what + ")", Plays::busy, y -> y.slot(s, read), -1);
            }
        }
        for (int what : new int[] {-1, 5, Plays.MIN, Plays.MAX}) {
            check.refused("slot(0, " + what + ")", Plays::busy, y -> y.slot(0, what), -1);
            check.refused("slot(11, " + what + ")", Plays::busy, y -> y.slot(11, what), -1);
            check.refused("slot(12, " + what + ")", Plays::busy, y -> y.slot(12, what), -1);
        }
    }

    private static void toldStates(Check check) {
        LinePool x = Plays.quick(4, 1, 4);
        x.set(3, 3);
        x.caller(0, 0, 9, 10, 2);
        x.caller(1, 0, 9, 10, 2);
        x.caller(0, 0, 9, 900, 2);
        x.caller(2, 0, 9, 10, 2);
        x.caller(0, 1, 0, 900, 2);
        x.broken(4, 2);
        int[][] states = {
            {0, 0, 0, 0, 0}, {2, 2, 2, 2, 1}, {5, 4, 3, 2, 8}, {5, 4, 6, 5, 8}, {5, 4, 6, 5, 8}, {5, 7, 6, 5, 8},
        };
        for (int tick = 1; tick <= 6; tick++) {
            x.run(1);
            for (int c = 0; c < 5; c++) {
                check.told(x, c, states[tick - 1][c]);
            }
        }
        for (int what = 0; what < 6; what++) {
            int read = what;
            changesNothing(check, "told(0, " + what + ")", y -> y.told(0, read));
        }
    }

    private static void toldWork(Check check) {
        LinePool x = Plays.quick(1, -1, 1);
        x.speed(1, 7);
        x.caller(2, 0, 99, 20, 2);
        int[] left = {20, 20, 20, 13, 6, 20, 20};
        for (int tick = 0; tick <= 6; tick++) {
            check.due("told(0, 1) in tick " + tick, x.told(0, 1), left[tick]);
            x.run(1);
        }
        x.set(0, 2);
        x.run(2);
        check.told(x, 0, 3, 20, 2);
        x.run(3);
        check.told(x, 0, 5, 0, 0);
        LinePool y = new LinePool();
        y.caller(0, 0, 0, 1, 1);
        y.caller(0, 0, 0, 1000, 1);
        check.due("the least", y.told(0, 1), 1);
        check.due("the most", y.told(1, 1), 1000);
    }

    private static void toldLines(Check check) {
        LinePool x = Plays.quick(2, 2, 2);
        x.caller(2, 0, 9, 10, 2);
        // a line that is tried is none that it has
        int[] lines = {0, 0, 0, 0, 1, 1, 0};
        for (int tick = 0; tick <= 6; tick++) {
            check.due("told(0, 2) in tick " + tick, x.told(0, 2), lines[tick]);
            x.run(1);
        }
        LinePool y = Plays.quick(2, -1, 2);
        y.caller(2, 0, 9, 10, 2);
        int[] both = {0, 0, 1, 2, 0};
        for (int tick = 0; tick <= 4; tick++) {
            check.due("told(0, 2) in tick " + tick, y.told(0, 2), both[tick]);
            y.run(1);
        }
    }

    private static void toldSince(Check check) {
        LinePool x = Plays.quick(2, -1, 2);
        x.caller(2, 0, 9, 20, 3);
        int[] since = {0, 0, 0, 3, 3, 5, 5, 5, 5};
        for (int tick = 0; tick <= 8; tick++) {
            check.due("told(0, 3) in tick " + tick, x.told(0, 3), since[tick]);
            x.run(1);
        }
        check.told(x, 0, 5);
        // a try that fails leaves it as it was
        LinePool y = Plays.quick(1, 2, 1);
        y.caller(0, 0, 99, 20, 2);
        y.broken(3, 0);
        y.run(4);
        check.told(y, 0, 1, 20, 0, 2);
    }

    private static void toldKindAndRank(Check check) {
        LinePool x = new LinePool();
        int number = 0;
        for (int kind = 0; kind <= 2; kind++) {
            for (int rank : new int[] {0, 1, 8, 9}) {
                x.caller(kind, rank, 9, 10, 2);
                check.due("the kind of " + number, x.told(number, 4), kind);
                check.due("the rank of " + number, x.told(number, 5), rank);
                number++;
            }
        }
        x.run(20);
        check.due("the kind of the first, later", x.told(0, 4), 0);
        check.due("the kind of the last, later", x.told(11, 4), 2);
        check.due("the rank of the last, later", x.told(11, 5), 9);
    }

    private static void noSuchCaller(Check check) {
        for (int c : new int[] {-1, 0, 1, Plays.MIN, Plays.MAX}) {
            check.refused("told(" + c + ", 0)", Plays::none, x -> x.told(c, 0), Check.THROWS);
        }
        LinePool busy = busy();
        check.told(busy, 6, 0, 30, 0, 0, 0, 5);
        for (int what = 0; what < 6; what++) {
            int read = what;
            for (int c : new int[] {-1, 7, 59, 60, Plays.MIN, Plays.MAX}) {
                check.refused("told(" + c + ", " + what + ")", Plays::busy, x -> x.told(c, read), Check.THROWS);
            }
        }
        for (int what : new int[] {-1, 6, Plays.MIN, Plays.MAX}) {
            check.refused("told(0, " + what + ")", Plays::busy, x -> x.told(0, what), Check.THROWS);
            check.refused("told(6, " + what + ")", Plays::busy, x -> x.told(6, what), Check.THROWS);
            check.refused("told(7, " + what + ")", Plays::busy, x -> x.told(7, what), Check.THROWS);
        }
        LinePool full = new LinePool();
        Plays.full(full);
        check.told(full, 59, 0, 64, 0, 0, 2, 9);
        check.refused("told(60, 0)", Plays::full, x -> x.told(60, 0), Check.THROWS);
        check.refused("told(0, 0) behind clear", x -> {
            Plays.busy(x);
            x.clear();
        }, x -> x.told(0, 0), Check.THROWS);
    }
}
