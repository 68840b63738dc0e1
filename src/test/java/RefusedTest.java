import java.util.function.Consumer;
import java.util.function.ToLongFunction;

/** What Terms 3 says of all refused calls, promise by promise: with numbers far off, in unlike states. */
public final class RefusedTest {
    private static final String WORDS = "Refused calls answer NONE, or false, and change nothing.";
    private static final int[] FAR = {Plays.MIN, Plays.MIN + 1, -1000, -2, 1001, 5001, Plays.MAX - 1, Plays.MAX};

    private RefusedTest() {
    }

    public static void main(String[] args) {
        Sentences all = new Sentences("RefusedTest");
        all.hold("Promise 1: A new object", "one that is OPENING, IDLE, TRYING or LENT, and perhaps BROKEN",
            RefusedTest::playsAreWorthIt);
        all.hold("Promise 2: set", WORDS, check -> {
            for (int far : FAR) {
                refused(check, "set(what)", x -> x.set(far, 1), -2);
                refused(check, "set(v)", x -> x.set(5, far), -2);
            }
        });
        all.hold("Promise 3: speed", WORDS, check -> {
            for (int far : FAR) {
                refused(check, "speed(k)", x -> x.speed(far, 1) ? 1 : 0, 0);
                refused(check, "speed(v)", x -> x.speed(1, far) ? 1 : 0, 0);
            }
        });
        all.hold("Promise 4: caller", WORDS, check -> {
            for (int far : FAR) {
                refused(check, "caller(kind)", x -> x.caller(far, 0, 0, 1, 20), -1);
                refused(check, "caller(rank)", x -> x.caller(0, far, 0, 1, 20), -1);
                refused(check, "caller(patience)", x -> x.caller(0, 0, far, 1, 20), -1);
                refused(check, "caller(work)", x -> x.caller(0, 0, 0, far, 20), -1);
                refused(check, "caller(tick)", x -> x.caller(0, 0, 0, 1, far == 1001 ? 0 : far), -1);
            }
        });
        all.hold("Promise 5: broken", WORDS, check -> {
            for (int far : FAR) {
                refused(check, "broken(tick)", x -> x.broken(far == 1001 ? 0 : far, 0) ? 1 : 0, 0);
                refused(check, "broken(slot)", x -> x.broken(20, far) ? 1 : 0, 0);
            }
        });
        all.hold("Promise 6: run", WORDS, check -> {
            for (int far : FAR) {
                refused(check, "run(n)", x -> x.run(far), -1);
            }
        });
        all.hold("Promise 8: count", WORDS, check -> {
            for (int far : FAR) {
                refused(check, "count(what)", x -> x.count(far), -1);
            }
        });
        all.hold("Promise 9: slot", WORDS, check -> {
            for (int far : FAR) {
                refused(check, "slot(s)", x -> x.slot(far, 0), -1);
                refused(check, "slot(what)", x -> x.slot(0, far), -1);
            }
        });
        all.hold("Promise 10: told", WORDS, check -> {
            for (int far : FAR) {
                refused(check, "told(c)", x -> x.told(far, 0), Check.THROWS);
                refused(check, "told(what)", x -> x.told(0, far), Check.THROWS);
            }
        });
        all.hold("Promise 11: event", WORDS, check -> {
            for (int far : FAR) {
                refused(check, "event(i)", x -> x.event(far, 0), -1);
                refused(check, "event(what)", x -> x.event(0, far), -1);
            }
        });
        all.hold("Promise 12: mean", WORDS, check -> {
            for (int far : FAR) {
                refused(check, "mean(n)", x -> x.mean(far, 1, 1, 0), -1);
                refused(check, "mean(r)", x -> x.mean(1, far, 1, 0), -1);
                refused(check, "mean(c)", x -> x.mean(1, 1, far, 0), -1);
                refused(check, "mean(what)", x -> x.mean(1, 1, 1, far), -1);
            }
        });
        all.hold("Promise 13: best", WORDS, check -> {
            for (int far : FAR) {
                refused(check, "best(n)", x -> x.best(far, 1, 1), -1);
                refused(check, "best(r)", x -> x.best(1, far, 1), -1);
                refused(check, "best(most)", x -> x.best(1, 1, far), -1);
            }
        });
        all.hold("Promise 14: crowd", WORDS, check -> {
            for (int far : FAR) {
                refused(check, "crowd(takes)", x -> x.crowd(far), -1);
            }
        });
        all.hold("Promise 16: states", WORDS, check -> {
            for (int far : FAR) {
                refused(check, "states(c)", x -> x.states(far, 0), -1);
                refused(check, "states(what)", x -> x.states(1, far), -1);
            }
        });
        all.end();
    }

    /** In the midst of a play, where all is full, and where nothing is there but numbers and speeds. */
    private static void refused(Check check, String call, ToLongFunction<LinePool> asked, long answer) {
        Consumer<LinePool> busy = Plays::busy;
        check.refused(call + ", busy", busy, asked, answer);
        check.refused(call + ", full", Plays::full, asked, answer);
        check.refused(call + ", behind a clear", busy.andThen(LinePool::clear), asked, answer);
    }

    /** A pool in which little goes on would show little of what a refused call changes. */
    private static void playsAreWorthIt(Check check) {
        LinePool x = new LinePool();
        Plays.busy(x);
        check.count(x, 0, 11);
        boolean[] lines = new boolean[5];
        int broken = 0;
        for (int s = 0; s < 12; s++) {
            lines[x.slot(s, 0)] = true;
            broken += x.slot(s, 1);
        }
        for (int state = 0; state < 5; state++) {
            check.due("busy: whether a line is in state " + state, lines[state], true);
        }
        check.due("busy: whether a line is broken", broken > 0, true);
        boolean[] callers = new boolean[9];
        for (int c = 0; c < x.count(1); c++) {
            callers[x.told(c, 0)] = true;
        }
        for (int state : new int[] {0, 2, 3, 4, 5, 8}) {
            check.due("busy: whether a caller is in state " + state, callers[state], true);
        }
        LinePool y = new LinePool();
        Plays.full(y);
        check.count(y, 1, 60);
        check.due("full: whether a caller waits", y.count(2) > 0, true);
        check.due("full: crowd", y.scatter(), 6);
    }
}
