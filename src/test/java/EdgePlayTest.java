import java.util.NoSuchElementException;
import java.util.Random;

/**
 * All promises: plays by chance (the same each time) with numbers at, beside and far beyond the edges
 * that the document names, in any order and state. The pool of SlowPool is told what the document's
 * ranges let through; whatever they do not must be refused, and nothing else may be thrown.
 */
public final class EdgePlayTest {
    private static final int PLAYS = 600;
    private static final int CALLS = 512;
    /** The most that one turn makes. */
    private static final int CALLS_OF_TURN = 6;
    private static final int[] LEAST = {1, 0, -1, 1, 1, 0};
    private static final int[] MOST = {12, 20, 20, 1000, 1000, 12};

    private final Check check = new Check("EdgePlayTest");
    private final Random chance = new Random(20261117);
    private LinePool x;
    private SlowPool y;
    private int crowd;
    private int left;

    private EdgePlayTest() {
    }

    public static void main(String[] args) {
        EdgePlayTest test = new EdgePlayTest();
        for (int i = 0; i < PLAYS; i++) {
            test.x = new LinePool();
            test.y = new SlowPool();
            test.crowd = 0;
            test.left = CALLS;
            while (test.left >= CALLS_OF_TURN) {
                test.call();
            }
        }
        test.check.end();
    }

    /** Mostly within the range, often at its ends, now and then beside it or far off. */
    private int near(int least, int most) {
        switch (chance.nextInt(40)) {
            case 0: return least - 1;
            case 1: return most + 1;
            case 2: return chance.nextBoolean() ? Plays.MIN : Plays.MAX;
            case 3: return chance.nextInt();
            default: break;
        }
        switch (chance.nextInt(6)) {
            case 0: return least;
            case 1: return most;
            default: return least + chance.nextInt(most - least + 1);
        }
    }

    private static boolean in(int v, int least, int most) {
        return v >= least && v <= most;
    }

    private void call() {
        left--;
        switch (chance.nextInt(22)) {
            case 0: set(); break;
            case 1: speed(); break;
            case 2: case 3: case 4: caller(near(0, 2), near(0, 9), near(0, 30), near(1, 60), soon()); break;
            case 5: case 6: broken(soon(), near(0, 11)); break;
            case 7: case 8: case 9: case 10: run(chance.nextInt(60) == 0 ? near(0, 500) : near(0, 4)); break;
            case 11: if (chance.nextInt(20) == 0) clear(); break;
            case 12: case 13: count(near(0, 17)); break;
            case 14: case 15: slot(near(0, 11), near(0, 4)); break;
            case 16: case 17: told(near(0, y.people.size() - 1 < 0 ? 0 : y.people.size() - 1), near(0, 5)); break;
            case 18: case 19: event(near(0, 149), near(0, 3)); break;
            case 20: counted(near(1, 8), near(1, 9), near(1, 8), near(0, 1)); break;
            default: crowd(); break;
        }
    }

    private int soon() {
        return chance.nextInt(12) == 0 ? near(y.tick + 1, Math.max(y.tick + 1, 5000)) : near(y.tick + 1, y.tick + 6);
    }

    private void set() {
        int what = near(0, 5);
        boolean known = in(what, 0, 5);
        int v = known ? near(LEAST[what], chance.nextBoolean() ? MOST[what] : Math.min(MOST[what], 12)) : near(0, 12);
        boolean taken = known && in(v, LEAST[what], MOST[what]);
        check.due("set(" + what + ", " + v + ")", x.set(what, v), taken ? y.number[what] : -2);
        if (taken) {
            y.number[what] = v;
        }
    }

    private void speed() {
        int k = near(1, 12);
        int v = near(1, 100);
        boolean taken = in(k, 1, 12) && in(v, 1, 100);
        check.due("speed(" + k + ", " + v + ")", x.speed(k, v), taken);
        if (taken) {
            y.speed[k - 1] = v;
        }
    }

    private boolean ahead(int tick) {
        return tick > y.tick && tick <= 5000;
    }

    private void caller(int kind, int rank, int patience, int work, int tick) {
        boolean taken = in(kind, 0, 2) && in(rank, 0, 9) && in(patience, 0, 1000) && in(work, 1, 1000)
            && ahead(tick) && y.people.size() < 60;
        String call = "caller(" + kind + ", " + rank + ", " + patience + ", " + work + ", " + tick + ")";
        check.due(call, x.caller(kind, rank, patience, work, tick),
            taken ? y.caller(kind, rank, patience, work, tick) : -1);
    }

    private void broken(int tick, int slot) {
        boolean taken = ahead(tick) && in(slot, 0, 11) && y.breaks.size() < 60;
        check.due("broken(" + tick + ", " + slot + ")", x.broken(tick, slot), taken);
        if (taken) {
            y.breaks.add(new int[] {tick, slot});
        }
    }

    private void run(int n) {
        check.due("run(" + n + ")", x.run(n), in(n, 0, 500) ? y.run(n) : -1);
    }

    private void clear() {
        SlowPool kept = y;
        y = new SlowPool();
        System.arraycopy(kept.number, 0, y.number, 0, 6);
        System.arraycopy(kept.speed, 0, y.speed, 0, 12);
        crowd = 0;
        x.clear();
    }

    private void count(int what) {
        check.due("count(" + what + ")", x.count(what), in(what, 0, 17) ? y.count(what) : -1);
    }

    private void slot(int s, int what) {
        boolean there = in(s, 0, 11) && in(what, 0, 4);
        check.due("slot(" + s + ", " + what + ")", x.slot(s, what), there ? y.slot(s, what) : -1);
    }

    private void told(int c, int what) {
        boolean there = in(c, 0, y.people.size() - 1) && in(what, 0, 5);
        long got;
        try {
            got = x.told(c, what);
        } catch (NoSuchElementException e) {
            got = Check.THROWS;
        }
        check.due("told(" + c + ", " + what + ")", got, there ? y.told(c, what) : Check.THROWS);
    }

    private void event(int i, int what) {
        boolean there = i >= 0 && in(what, 0, 3);
        check.due("event(" + i + ", " + what + ")", x.event(i, what), there ? y.event(i, what) : -1);
    }

    private void counted(int n, int r, int c, int what) {
        left--;
        boolean taken = in(n, 1, 8) && in(r, 1, 9) && in(c, 1, 8);
        String of = n + ", " + r + ", " + c;
        check.due("mean(" + of + ", " + what + ") is one", x.mean(n, r, c, what) >= 0, taken && in(what, 0, 1));
        check.due("best(" + of + ") is one", in(x.best(n, r, c), 1, c), taken);
    }

    private void crowd() {
        left -= CALLS_OF_TURN - 1;
        if (chance.nextInt(10) == 0) {
            check.due("scatter()", x.scatter(), crowd);
            crowd = 0;
        }
        int takes = near(1, 4);
        boolean taken = in(takes, 1, 4) && crowd < 6;
        crowd += taken ? 1 : 0;
        check.due("crowd(" + takes + ")", x.crowd(takes), taken ? crowd : -1);
        int c = near(1, 24);
        int what = near(0, 1);
        check.due("states(" + c + ", " + what + ") are some", x.states(c, what) >= 0, in(c, 1, 24) && in(what, 0, 1));
        check.due("whether one is stuck with fewer than are sure", in(c, 1, 24) && x.states(c, 1) > 0,
            in(c, 1, 24) && c < x.sure());
    }
}
