/** Promise 7 (clear): all as new, but numbers and speeds. */
public final class ClearTest {
    private ClearTest() {
    }

    public static void main(String[] args) {
        Check check = new Check("ClearTest");
        LinePool x = new LinePool();
        settle(x);
        String first = play(x);
        x.crowd(3);
        x.clear();
        for (int what = 0; what <= 17; what++) {
            check.due("count(" + what + ") after clear", x.count(what), 0);
        }
        for (int s = 0; s < 12; s++) {
            check.slot(x, s, 0, 0, -1, 0, 0);
        }
        check.due("event after clear", x.event(0, 0), -1);
        check.toldThrows(x, 0, 0);
        check.due("states after clear", x.states(1, 0), 1);
        check.due("scatter after clear", x.scatter(), 0);
        check.due("the same play again: " + first, play(x).equals(first), true);
        x.clear();
        x.clear();
        check.due("the same play after two clears", play(x).equals(first), true);

        x.clear();
        int[] kept = {3, 1, 2, 9, 6, 2};
        for (int what = 0; what < 6; what++) {
            check.due("number " + what + " is kept", x.set(what, kept[what]), kept[what]);
        }
        check.due("speeds are kept, above", x.mean(2, 1, 1, 0), 1);
        check.due("speeds are kept, below", x.mean(2, 1, 1, 1), 20);
        check.end();
    }

    private static void settle(LinePool x) {
        int[] numbers = {3, 1, 2, 9, 6, 2};
        for (int what = 0; what < 6; what++) {
            x.set(what, numbers[what]);
        }
        x.speed(1, 4);
        x.speed(2, 3);
    }

    /** All kinds, so that a second play meets whatever the first has left. */
    private static String play(LinePool x) {
        for (int i = 0; i < 12; i++) {
            x.caller(i % 3, i % 4, 5 + i, 7 + i, 1 + 2 * i);
        }
        x.broken(9, 0);
        x.broken(14, 1);
        StringBuilder all = new StringBuilder();
        for (int i = 0; i < 30; i++) {
            all.append(x.run(2)).append(' ');
            for (int what = 0; what <= 17; what++) {
                all.append(x.count(what)).append(' ');
            }
        }
        for (int c = 0; c < 12; c++) {
            for (int what = 0; what < 6; what++) {
                all.append(x.told(c, what)).append(' ');
            }
        }
        return all.toString();
    }
}
