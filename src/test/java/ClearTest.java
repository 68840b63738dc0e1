/** Promise 7 (clear): all as new, but numbers and speeds. */
public final class ClearTest {
    private ClearTest() {
    }

    public static void main(String[] args) {
        Check check = new Check("ClearTest");
        LinePool x = new LinePool();
        settle(x);
        String first = play(x);
        x.crowd(3);
        x.clear();
        for (int what = 0; what <= 17; what++) {
            check.due("count(" + what + ") after clear", x.count(what), 0);
        }
        for (int s = 0; s < 12; s++) {
            check.slot(x, s, 0, 0, -1, 0, 0);
        }
        check.due("event after clear", x.event(0, 0), -1);
        check.toldThrows(x, 0, 0);
        check.due("states after clear", x.states(1, 0), 1);
        check.due("scatter after clear", x.scatter(), 0);
        check.due("the same play again: " + first, play(x).equals(first), true);
        x.clear();
        x.clear();
        check.due("the same play after two clears", play(x).equals(first), true);

        x.clear();
        int[] kept = {3, 1, 2, 9, 6, 2};
        for (int what = 0; what < 6; what++) {
            check.due("number " + what + " is kept", x.set(what, kept[what]), kept[what]);
        }
        check.due("speeds are kept, above", x.mean(2, 1, 1, 0), 1);
        check.due("speeds are kept, below", x.mean(2, 1, 1, 1), 20);
        everyLineAndBreak(check);
        callerAsNew(check);
        check.end();
    }

    private static void everyLineAndBreak(Check check) {
        LinePool x = new LinePool();
        x.set(0, 12);
        x.set(1, 0);
        x.set(5, 12);
        for (int s = 0; s < 12; s++) {
            x.broken(2, s);
        }
        x.run(2);
        for (int s = 0; s < 12; s++) {
            check.slot(x, s, 2, 1, -1, 0, 1);
        }
        x.clear();
        for (int s = 0; s < 12; s++) {
            check.slot(x, s, 0, 0, -1, 0, 0);
        }
        x.run(2);
        for (int s = 0; s < 12; s++) {
            check.slot(x, s, 2, 0, -1, 0, 1);
        }
    }

    private static void callerAsNew(Check check) {
        LinePool x = new LinePool();
        x.caller(2, 1, 9, 10, 1);
        x.run(5);
        check.told(x, 0, 1, 10, 1, 4, 2, 1);
        x.clear();
        x.caller(0, 3, 9, 20, 1);
        check.told(x, 0, 0, 20, 0, 0, 0, 3);
        check.due("run(6)", x.run(6), 1);
        check.due("waits", x.count(15), 1);
    }

    private static void settle(LinePool x) {
        int[] numbers = {3, 1, 2, 9, 6, 2};
        for (int what = 0; what < 6; what++) {
            x.set(what, numbers[what]);
        }
        x.speed(1, 4);
        x.speed(2, 3);
    }

    /** All kinds, so that a second play meets whatever the first has left. */
    private static String play(LinePool x) {
        for (int i = 0; i < 12; i++) {
            x.caller(i % 3, i % 4, 5 + i, 7 + i, 1 + 2 * i);
        }
        x.broken(9, 0);
        x.broken(14, 1);
        StringBuilder all = new StringBuilder();
        for (int i = 0; i < 30; i++) {
            all.append(x.run(2)).append(' ');
            for (int what = 0; what <= 17; what++) {
                all.append(x.count(what)).append(' ');
            }
        }
        for (int c = 0; c < 12; c++) {
            for (int what = 0; what < 6; what++) {
                all.append(x.told(c, what)).append(' ');
            }
        }
        return all.toString();
    }
}
