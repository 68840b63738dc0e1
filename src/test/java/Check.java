import java.util.NoSuchElementException;

/** Counts and prints the answers of one test that are not as due. */
final class Check {
    private final String name;
    private int checks;
    private int wrong;

    Check(String name) {
        this.name = name;
    }

    void due(String what, long got, long want) {
        checks++;
        if (got != want) {
            wrong++;
            System.out.println(name + ": " + what + " answered " + got + ", due is " + want);
        }
    }

    void due(String what, boolean got, boolean want) {
        due(what, got ? 1 : 0, want ? 1 : 0);
    }

    void toldThrows(LinePool x, int c, int what) {
        boolean thrown = false;
        try {
            x.told(c, what);
        } catch (NoSuchElementException e) {
            thrown = true;
        }
        due("told(" + c + ", " + what + ") throws", thrown, true);
    }

    /** The latest events, oldest of them first; each row is number, tick, caller, slot. */
    void latestEvents(LinePool x, int[]... rows) {
        for (int i = 0; i < rows.length; i++) {
            int[] row = rows[rows.length - 1 - i];
            for (int what = 0; what < 4; what++) {
                due("event(" + i + ", " + what + ") at tick " + x.count(0), x.event(i, what), row[what]);
            }
        }
    }

    /** All events there are. */
    void allEvents(LinePool x, int[]... rows) {
        due("count(17)", x.count(17), rows.length);
        latestEvents(x, rows);
        due("event behind the first", x.event(rows.length, 0), LinePool.NONE);
    }

    /** A slot's state, whether broken, caller, ticks to go, since. */
    void slot(LinePool x, int s, int... wants) {
        for (int what = 0; what < wants.length; what++) {
            due("slot(" + s + ", " + what + ") at tick " + x.count(0), x.slot(s, what), wants[what]);
        }
    }

    /** A caller's state, work left, lines, since when waiting. */
    void told(LinePool x, int c, int... wants) {
        for (int what = 0; what < wants.length; what++) {
            due("told(" + c + ", " + what + ") at tick " + x.count(0), x.told(c, what), wants[what]);
        }
    }

    static int[] row(int number, int tick, int caller, int slot) {
        return new int[] {number, tick, caller, slot};
    }

    void end() {
        System.out.println(name + ": " + checks + " checks, " + wrong + " wrong");
        if (wrong != 0 || checks == 0) {
            System.exit(1);
        }
    }
}
