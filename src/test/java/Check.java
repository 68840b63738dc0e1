import java.util.NoSuchElementException;
import java.util.function.Consumer;
import java.util.function.ToLongFunction;

/** Counts and prints the answers of one test that are not as due. */
final class Check {
    /** What a call counts as that throws a NoSuchElementException. */
    static final long THROWS = Long.MIN_VALUE;

    private final String name;
    private int checks;
    private int wrong;

    Check(String name) {
        this.name = name;
    }

    int checks() {
        return checks;
    }

    int wrong() {
        return wrong;
    }

    void due(String what, long got, long want) {
        checks++;
        if (got != want) {
            wrong++;
            System.out.println(name + ": " + what + " answered " + got + ", due is " + want);
        }
    }

    void due(String what, boolean got, boolean want) {
        due(what, got ? 1 : 0, want ? 1 : 0);
    }

    /** Whether nothing that can be seen tells the two apart. */
    void same(String what, Consumer<LinePool> calls, Consumer<LinePool> others) {
        String[] seen = Seen.behind(calls);
        String[] due = Seen.behind(others);
        for (int i = 0; i < due.length; i++) {
            boolean same = seen[i].equals(due[i]);
            due(what + ", and the same " + due[i].substring(0, due[i].indexOf(':')), same, true);
            if (!same) {
                System.out.println("seen: " + seen[i] + "\ndue:  " + due[i]);
            }
        }
    }

    /** A call that is refused behind these calls: it answers so, and changes nothing. */
    void refused(String call, Consumer<LinePool> before, ToLongFunction<LinePool> asked, long answer) {
        LinePool x = new LinePool();
        before.accept(x);
        due(call, answer(asked, x), answer);
        same(call, y -> {
            before.accept(y);
            answer(asked, y);
        }, before);
    }

    private static long answer(ToLongFunction<LinePool> asked, LinePool x) {
        try {
            return asked.applyAsLong(x);
        } catch (NoSuchElementException e) {
            return THROWS;
        }
    }

    void toldThrows(LinePool x, int c, int what) {
        due("told(" + c + ", " + what + ")", answer(y -> y.told(c, what), x), THROWS);
    }

    /** The latest events, oldest of them first; each row is number, tick, caller, slot. */
    void latestEvents(LinePool x, int[]... rows) {
        for (int i = 0; i < rows.length; i++) {
            int[] row = rows[rows.length - 1 - i];
            for (int what = 0; what < 4; what++) {
                due("event(" + i + ", " + what + ") at tick " + x.count(0), x.event(i, what), row[what]);
            }
        }
    }

    /** All events there are. */
    void allEvents(LinePool x, int[]... rows) {
        due("count(17)", x.count(17), rows.length);
        latestEvents(x, rows);
        due("event behind the first", x.event(rows.length, 0), LinePool.NONE);
    }

    void count(LinePool x, int what, long want) {
        due("count(" + what + ") at tick " + x.count(0), x.count(what), want);
    }

    /** A slot's state, whether broken, caller, ticks to go, since. */
    void slot(LinePool x, int s, int... wants) {
        for (int what = 0; what < wants.length; what++) {
            due("slot(" + s + ", " + what + ") at tick " + x.count(0), x.slot(s, what), wants[what]);
        }
    }

    /** A caller's state, work left, lines, since when waiting, kind, rank. */
    void told(LinePool x, int c, int... wants) {
        for (int what = 0; what < wants.length; what++) {
            due("told(" + c + ", " + what + ") at tick " + x.count(0), x.told(c, what), wants[what]);
        }
    }

    static int[] row(int number, int tick, int caller, int slot) {
        return new int[] {number, tick, caller, slot};
    }

    void end() {
        System.out.println(name + ": " + checks + " checks, " + wrong + " wrong");
        if (wrong != 0 || checks == 0) {
            System.exit(1);
        }
    }
}
