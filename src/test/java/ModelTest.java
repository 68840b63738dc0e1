import java.util.Random;

/** Promises 2 to 11: many plays by chance (the same each time) against the pool of SlowPool. */
public final class ModelTest {
    private static final int PLAYS = 1500;
    private static final int CALLS = 40;
    private static final int[] LEAST = {1, 0, -1, 1, 1, 0};

    private final Check check = new Check("ModelTest");
    private final Random chance = new Random(20261116);
    private final long[] seen = new long[18];
    private LinePool x;
    private SlowPool y;

    private ModelTest() {
    }

    public static void main(String[] args) {
        ModelTest test = new ModelTest();
        for (int i = 0; i < PLAYS; i++) {
            test.play();
        }
        // plays in which some ending never comes would say nothing of it
        for (int what = 7; what <= 16; what++) {
            test.check.due("count " + what + " is ever above 99", test.seen[what] > 99, true);
        }
        test.check.end();
    }

    private int from(int least, int most) {
        return least + chance.nextInt(most - least + 1);
    }

    private void play() {
        x = new LinePool();
        y = new SlowPool();
        int[] mostNumbers = {from(1, 12), from(0, 4), from(-1, 4), from(5, 60), from(2, 60), from(0, 12)};
        int ticks = from(1, 12);
        for (int what = 0; what < 6; what++) {
            number(what, mostNumbers[what]);
        }
        for (int i = 0; i < CALLS; i++) {
            switch (from(0, 9)) {
                case 0: number(from(0, 5), mostNumbers); break;
                case 1: speed(); break;
                case 2: case 3: case 4: caller(); break;
                case 5: case 6: breakSlot(); break;
                default:
                    int n = from(1, ticks);
                    check.due("run(" + n + ")", x.run(n), y.run(n));
                    compare();
                    break;
            }
        }
        for (int what = 0; what < seen.length; what++) {
            seen[what] += x.count(what);
        }
    }

    private void number(int what, int[] most) {
        number(what, from(LEAST[what], Math.max(LEAST[what], most[what])));
    }

    private void number(int what, int v) {
        check.due("set(" + what + ", " + v + ")", x.set(what, v), y.number[what]);
        y.number[what] = v;
    }

    private void speed() {
        int k = from(1, 12);
        int v = from(1, 30);
        check.due("speed(" + k + ", " + v + ")", x.speed(k, v), true);
        y.speed[k - 1] = v;
    }

    private void caller() {
        int many = from(1, 4);
        for (int i = 0; i < many && y.people.size() < 60; i++) {
            int kind = from(0, 2);
            int rank = from(0, 3);
            int patience = from(0, 30);
            int work = from(1, 80);
            int tick = y.tick + from(1, 10);
            check.due("caller", x.caller(kind, rank, patience, work, tick),
                y.caller(kind, rank, patience, work, tick));
        }
    }

    private void breakSlot() {
        int tick = y.tick + from(1, 8);
        int slot = from(0, 5) * from(0, 2) + from(0, 1);
        check.due("broken", x.broken(tick, slot), true);
        y.breaks.add(new int[] {tick, slot});
    }

    private void compare() {
        for (int what = 0; what <= 17; what++) {
            check.due("count(" + what + ")", x.count(what), y.count(what));
        }
        for (int s = 0; s < 12; s++) {
            for (int what = 0; what < 5; what++) {
                check.due("slot(" + s + ", " + what + ")", x.slot(s, what), y.slot(s, what));
            }
        }
        for (int c = 0; c < y.people.size(); c++) {
            for (int what = 0; what < 6; what++) {
                check.due("told(" + c + ", " + what + ")", x.told(c, what), y.told(c, what));
            }
        }
        for (int i = 0; i <= 150; i++) {
            for (int what = 0; what < 4; what++) {
                check.due("event(" + i + ", " + what + ")", x.event(i, what), y.event(i, what));
            }
        }
    }
}
