import java.util.ArrayList;
import java.util.List;
import java.util.Random;
import java.util.function.Consumer;

/**
 * Promises 2 to 11: many plays by chance (the same each time) against the pool of SlowPool. The counts
 * are held against it behind each run, all the rest at the end of a play, which comes early or late.
 */
public final class ModelTest {
    private static final int PLAYS = 4000;
    private static final int MOST_CALLS = 40;
    private static final int[] LEAST = {1, 0, -1, 1, 1, 0};

    private final Check check = new Check("ModelTest");
    private final Random chance = new Random(20261116);
    private final long[] seen = new long[18];
    private final List<Consumer<LinePool>> calls = new ArrayList<>();
    private LinePool x;
    private SlowPool y;

    private ModelTest() {
    }

    public static void main(String[] args) {
        ModelTest test = new ModelTest();
        for (int i = 0; i < PLAYS; i++) {
            test.play();
        }
        // plays in which some ending never comes would say nothing of it
        for (int what = 7; what <= 16; what++) {
            test.check.due("count " + what + " is ever above 99", test.seen[what] > 99, true);
        }
        test.check.end();
    }

    private int from(int least, int most) {
        return least + chance.nextInt(most - least + 1);
    }

    private void play() {
        x = new LinePool();
        y = new SlowPool();
        calls.clear();
        int[] mostNumbers = {from(1, 12), from(0, 4), from(-1, 4), from(5, 60), from(2, 60), from(0, 12)};
        int ticks = from(1, 12);
        for (int what = 0; what < 6; what++) {
            number(what, mostNumbers[what]);
        }
        int many = from(MOST_CALLS / 4, MOST_CALLS);
        for (int i = 0; i < many; i++) {
            switch (from(0, 9)) {
                case 0: number(from(0, 5), mostNumbers); break;
                case 1: speed(); break;
                case 2: case 3: case 4: caller(); break;
                case 5: case 6: breakSlot(); break;
                default: run(from(1, ticks)); break;
            }
        }
        run(1);
        for (int what = 0; what < seen.length; what++) {
            seen[what] += y.count(what);
        }
        compareSlots(again());
        compareCallers(again());
        compareEvents(again(), 0, 75);
        compareEvents(again(), 75, 151);
    }

    private void number(int what, int[] most) {
        number(what, from(LEAST[what], Math.max(LEAST[what], most[what])));
    }

    private void number(int what, int v) {
        calls.add(p -> p.set(what, v));
        check.due("set(" + what + ", " + v + ")", x.set(what, v), y.number[what]);
        y.number[what] = v;
    }

    private void speed() {
        int k = from(1, 12);
        int v = from(1, 30);
        calls.add(p -> p.speed(k, v));
        check.due("speed(" + k + ", " + v + ")", x.speed(k, v), true);
        y.speed[k - 1] = v;
    }

    private void caller() {
        int many = from(1, 4);
        for (int i = 0; i < many && y.people.size() < 60; i++) {
            int kind = from(0, 2);
            int rank = from(0, 3);
            int patience = from(0, 30);
            int work = from(1, 80);
            int tick = y.tick + from(1, 10);
            calls.add(p -> p.caller(kind, rank, patience, work, tick));
            check.due("caller", x.caller(kind, rank, patience, work, tick),
                y.caller(kind, rank, patience, work, tick));
        }
    }

    private void breakSlot() {
        int tick = y.tick + from(1, 8);
        int slot = from(0, 5) * from(0, 2) + from(0, 1);
        calls.add(p -> p.broken(tick, slot));
        check.due("broken", x.broken(tick, slot), true);
        y.breaks.add(new int[] {tick, slot});
    }

    private void run(int n) {
        calls.add(p -> p.run(n));
        check.due("run(" + n + ")", x.run(n), y.run(n));
        for (int what = 0; what <= 17; what++) {
            check.due("count(" + what + ")", x.count(what), y.count(what));
        }
    }

    /** The same play on an object of its own, which is used for at most 512 calls. */
    private LinePool again() {
        LinePool p = new LinePool();
        for (Consumer<LinePool> call : calls) {
            call.accept(p);
        }
        return p;
    }

    private void compareSlots(LinePool p) {
        for (int s = 0; s < 12; s++) {
            for (int what = 0; what < 5; what++) {
                check.due("slot(" + s + ", " + what + ")", p.slot(s, what), y.slot(s, what));
            }
        }
    }

    private void compareCallers(LinePool p) {
        for (int c = 0; c < y.people.size(); c++) {
            for (int what = 0; what < 6; what++) {
                check.due("told(" + c + ", " + what + ")", p.told(c, what), y.told(c, what));
            }
        }
    }

    private void compareEvents(LinePool p, int first, int end) {
        for (int i = first; i < end; i++) {
            for (int what = 0; what < 4; what++) {
                check.due("event(" + i + ", " + what + ")", p.event(i, what), y.event(i, what));
            }
        }
    }
}
