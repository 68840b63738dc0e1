import java.util.ArrayList;
import java.util.List;

/** Promise 11 (event): what each event tells, which are kept, and wrong numbers. */
public final class LogTest {
    private static final String EVENT = "Promise 11: event";

    private LogTest() {
    }

    public static void main(String[] args) {
        Sentences all = new Sentences("LogTest");
        all.hold(EVENT, "EVENTS: 0 came, 1 LENT, 2 DONE, 3 FAILED, 4 LEAKED, 5 UP, 6 a LINE OPENING, 7 a LINE gone, "
            + "8 a try begun", LogTest::eachNumber);
        all.hold(EVENT, "8 a try begun (with TRY 0 none)", LogTest::triesOfNoTicks);
        all.hold(EVENT, "each with TICK, CALLER (NONE of 6, 7), SLOT (NONE of 0, 2 to 5), as they come",
            LogTest::noneOfThese);
        all.hold(EVENT, "where nothing else is told CALLER by CALLER, from 0 on", LogTest::callerByCaller);
        all.hold(EVENT, "a CALLER's own ahead of those of its LINES (SLOT by SLOT).", LogTest::ownAheadOfLines);
        all.hold(EVENT, "The latest 150 are kept.", LogTest::latestKept);
        all.hold(EVENT, "Of the i-th latest EVENT (0: the latest), what 0: its number, 1: TICK, 2: CALLER, 3: SLOT.",
            LogTest::latestFirst);
        all.hold(EVENT, "NONE: there is none such, another what.", LogTest::noneSuch);
        all.end();
    }

    private static int[] row(int number, int tick, int caller, int slot) {
        return Check.row(number, tick, caller, slot);
    }

    /** One caller is done, one fails, one leaks, one gives up. */
    private static LinePool withAllNumbers() {
        LinePool x = Plays.quick(3, 1, 3);
        x.set(3, 2);
        x.caller(0, 0, 9, 10, 2);
        x.caller(0, 0, 9, 900, 2);
        x.caller(1, 0, 9, 10, 2);
        x.caller(0, 9, 0, 10, 2);
        x.broken(4, 1);
        x.run(5);
        return x;
    }

    private static void eachNumber(Check check) {
        LinePool x = withAllNumbers();
        check.allEvents(x, row(6, 1, -1, 0), row(6, 1, -1, 1), row(6, 1, -1, 2), row(0, 2, 0, -1), row(0, 2, 1, -1),
            row(0, 2, 2, -1), row(0, 2, 3, -1), row(8, 2, 0, 0), row(8, 2, 1, 1), row(8, 2, 2, 2), row(1, 3, 0, 0),
            row(1, 3, 1, 1), row(1, 3, 2, 2), row(2, 3, 0, -1), row(5, 3, 3, -1), row(3, 4, 1, -1), row(7, 4, -1, 1),
            row(6, 4, -1, 1), row(4, 5, 2, -1));
    }

    private static void triesOfNoTicks(Check check) {
        int[][] tryAndBegun = {{-1, 0}, {0, 0}, {1, 1}};
        for (int[] row : tryAndBegun) {
            LinePool x = Plays.quick(1, row[0], 1);
            x.caller(0, 0, 9, 10, 2);
            x.run(4);
            int begun = 0;
            for (int i = 0; i < x.count(17); i++) {
                begun += x.event(i, 0) == 8 ? 1 : 0;
            }
            check.due("tries begun with TRY " + row[0], begun, row[1]);
            check.due("tries counted with TRY " + row[0], x.count(11), row[0] < 0 ? 0 : 1);
        }
    }

    private static void noneOfThese(Check check) {
        LinePool x = withAllNumbers();
        boolean[] seen = new boolean[9];
        for (int i = 0; i < x.count(17); i++) {
            int number = x.event(i, 0);
            boolean noCaller = number == 6 || number == 7;
            boolean noSlot = number == 0 || number >= 2 && number <= 5;
            seen[number] = true;
            check.due("no caller of " + number, x.event(i, 2) == -1, noCaller);
            check.due("no slot of " + number, x.event(i, 3) == -1, noSlot);
        }
        for (int number = 0; number < 9; number++) {
            check.due("whether there is an event " + number, seen[number], true);
        }
    }

    /** Those who come, are done, fail, leak and give up, whatever their slots and ranks. */
    private static void callerByCaller(Check check) {
        LinePool x = Plays.quick(3, -1, 3);
        for (int rank = 2; rank >= 0; rank--) {
            x.caller(0, rank, 0, 10, 2);
        }
        for (int rank = 5; rank >= 3; rank--) {
            x.caller(0, rank, 0, 10, 2);
        }
        x.run(3);
        check.latestEvents(x, row(0, 2, 0, -1), row(0, 2, 1, -1), row(0, 2, 2, -1), row(0, 2, 3, -1), row(0, 2, 4, -1),
            row(0, 2, 5, -1), row(1, 2, 2, 0), row(1, 2, 1, 1), row(1, 2, 0, 2), row(2, 3, 0, -1), row(2, 3, 1, -1),
            row(2, 3, 2, -1), row(5, 3, 3, -1), row(5, 3, 4, -1), row(5, 3, 5, -1));

        LinePool y = Plays.quick(3, -1, 3);
        y.set(3, 2);
        for (int rank = 2; rank >= 0; rank--) {
            y.caller(1, rank, 0, 10, 2);
        }
        y.run(4);
        check.latestEvents(y, row(1, 2, 0, 2), row(4, 4, 0, -1), row(4, 4, 1, -1), row(4, 4, 2, -1));

        // tries that end are told slot by slot
        LinePool z = Plays.quick(3, 1, 3);
        for (int rank = 2; rank >= 0; rank--) {
            z.caller(0, rank, 0, 900, 2);
        }
        z.run(3);
        check.latestEvents(z, row(8, 2, 2, 0), row(8, 2, 1, 1), row(8, 2, 0, 2), row(1, 3, 2, 0), row(1, 3, 1, 1),
            row(1, 3, 0, 2));
    }

    private static void ownAheadOfLines(Check check) {
        LinePool x = Plays.quick(4, -1, 4);
        x.caller(2, 1, 9, 10, 2);
        x.caller(2, 0, 9, 10, 2);
        x.run(3);
        // caller 1 has the first line, and in the next tick caller 1 again is ahead, by its rank
        check.latestEvents(x, row(1, 2, 1, 0), row(1, 2, 0, 1), row(1, 3, 1, 2), row(1, 3, 0, 3));
        for (int s = 0; s < 4; s++) {
            x.broken(4, s);
        }
        x.set(5, 0);
        x.run(1);
        check.latestEvents(x, row(3, 4, 0, -1), row(7, 4, -1, 1), row(7, 4, -1, 3), row(3, 4, 1, -1), row(7, 4, -1, 0),
            row(7, 4, -1, 2));
    }

    /** So many events: twelve lines open, and then one goes or opens in each tick. */
    private static LinePool withEvents(int many, List<int[]> rows) {
        LinePool x = Plays.quick(12, -1, 12);
        x.run(1);
        for (int s = 0; s < 12; s++) {
            rows.add(row(6, 1, -1, s));
        }
        int tick = 1;
        // eleven at once while there is room for them, since each tick takes two calls
        boolean small = false;
        while (rows.size() + 22 <= many) {
            for (int half = 0; half < 2; half++) {
                tick++;
                small = !small;
                x.set(0, small ? 1 : 12);
                x.run(1);
                for (int s = 1; s < 12; s++) {
                    rows.add(small ? row(7, tick, -1, 12 - s) : row(6, tick, -1, s));
                }
            }
        }
        while (rows.size() < many) {
            tick++;
            small = !small;
            x.set(0, small ? 11 : 12);
            x.run(1);
            rows.add(row(small ? 7 : 6, tick, -1, 11));
        }
        return x;
    }

    /** The ring of those kept comes round at 150, 300 and 450. */
    private static void latestKept(Check check) {
        for (int many : new int[] {12, 149, 150, 151, 152, 299, 300, 301, 449, 450, 451}) {
            int kept = Math.min(many, 150);
            // 151 of each of the four, from an object of its own, since it is used for at most 512 calls
            for (int what = 0; what < 4; what++) {
                List<int[]> rows = new ArrayList<>();
                LinePool x = withEvents(many, rows);
                check.count(x, 17, many);
                for (int i = 0; i < kept; i++) {
                    check.due("event(" + i + ", " + what + ") of " + many, x.event(i, what),
                        rows.get(many - 1 - i)[what]);
                }
                check.due("event(" + kept + ", " + what + ") of " + many, x.event(kept, what), -1);
                check.due("event(" + many + ", " + what + ") of " + many, x.event(many, what), -1);
            }
        }
    }

    private static void latestFirst(Check check) {
        LinePool x = new LinePool();
        x.caller(0, 0, 9, 10, 2);
        x.run(1);
        check.allEvents(x, row(6, 1, -1, 0));
        x.run(1);
        check.allEvents(x, row(6, 1, -1, 0), row(0, 2, 0, -1));
        x.run(3);
        check.due("event(0, 0)", x.event(0, 0), 2);
        check.due("event(0, 1)", x.event(0, 1), 4);
        check.due("event(0, 2)", x.event(0, 2), 0);
        check.due("event(0, 3)", x.event(0, 3), -1);
        check.due("event(4, 0)", x.event(4, 0), 6);
        check.due("event(4, 3)", x.event(4, 3), 0);
        check.same("event(0, 0)", y -> {
            Plays.busy(y);
            y.event(0, 0);
        }, Plays::busy);
    }

    private static void noneSuch(Check check) {
        for (int what = 0; what < 4; what++) {
            int read = what;
            check.refused("event(0, " + what + ")", Plays::none, x -> x.event(0, read), -1);
        }
        LinePool busy = new LinePool();
        Plays.busy(busy);
        int many = (int) busy.count(17);
        check.due("the first event", busy.event(many - 1, 0), 6);
        for (int i : new int[] {-1, many, 149, 150, Plays.MIN, Plays.MAX}) {
            check.refused("event(" + i + ", 0)", Plays::busy, x -> x.event(i, 0), -1);
            check.refused("event(" + i + ", 1)", Plays::busy, x -> x.event(i, 1), -1);
        }
        for (int what : new int[] {-1, 4, Plays.MIN, Plays.MAX}) {
            check.refused("event(0, " + what + ")", Plays::busy, x -> x.event(0, what), -1);
            check.refused("event(" + many + ", " + what + ")", Plays::busy, x -> x.event(many, what), -1);
            check.due("event(" + (many - 1) + ", " + what + ")", busy.event(many - 1, what), -1);
        }
    }
}
