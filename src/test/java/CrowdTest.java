import java.util.ArrayDeque;
import java.util.ArrayList;
import java.util.Collections;
import java.util.HashSet;
import java.util.List;
import java.util.Set;

/** Promises 14 (crowd), 15 (scatter), 16 (states) and 17 (sure), against a walk over rows. */
public final class CrowdTest {
    private static final int GONE = 9;
    private static final int[][] CROWDS = {
        {}, {1}, {2}, {3}, {4}, {1, 1}, {1, 4}, {4, 1}, {2, 2}, {3, 2}, {4, 4}, {1, 2, 3}, {3, 2, 1},
        {2, 2, 2}, {4, 3, 2, 1}, {1, 1, 1, 1, 1, 1}, {2, 2, 2, 2, 2}, {4, 1, 4, 1, 4}, {1, 2, 3, 4, 1, 2},
        {4, 4, 4, 4, 4, 4}, {3, 3, 3, 3, 3, 3},
    };

    private CrowdTest() {
    }

    public static void main(String[] args) {
        Check check = new Check("CrowdTest");
        members(check);
        for (int[] takes : CROWDS) {
            againstWalk(check, takes);
        }
        changes(check);
        wrongNumbers(check);
        check.end();
    }

    private static void members(Check check) {
        LinePool x = new LinePool();
        for (int wrong : new int[] {Integer.MIN_VALUE, -1, 0, 5, Integer.MAX_VALUE}) {
            check.due("crowd(" + wrong + ")", x.crowd(wrong), -1);
        }
        check.due("scatter of none", x.scatter(), 0);
        for (int i = 1; i <= 6; i++) {
            check.due("crowd, number " + i, x.crowd(1 + i % 4), i);
        }
        int sure = x.sure();
        check.due("crowd, number 7", x.crowd(1), -1);
        check.due("sure, unchanged", x.sure(), sure);
        check.due("scatter", x.scatter(), 6);
        check.due("scatter again", x.scatter(), 0);
        check.due("sure of none", x.sure(), 1);
        check.due("crowd after scatter", x.crowd(4), 1);
        check.due("sure of one", x.sure(), 4);
    }

    private static void againstWalk(Check check, int[] takes) {
        LinePool x = new LinePool();
        List<Integer> wants = new ArrayList<>();
        for (int t : takes) {
            x.crowd(t);
            wants.add(t);
        }
        int sure = 1;
        for (int c = 1; c <= 24; c++) {
            int[] walked = walk(wants, c);
            String of = wants + " with " + c + " lines";
            check.due("states of " + of, x.states(c, 0), walked[0]);
            check.due("stuck ones of " + of, x.states(c, 1), walked[1]);
            check.due("states again of " + of, x.states(c, 0), walked[0]);
            if (walked[1] > 0) {
                sure = c + 1;
            }
        }
        check.due("sure of " + wants, x.sure(), sure);
    }

    private static int[] walk(List<Integer> wants, int lines) {
        List<Integer> start = new ArrayList<>(Collections.nCopies(wants.size(), 0));
        Set<List<Integer>> seen = new HashSet<>();
        ArrayDeque<List<Integer>> open = new ArrayDeque<>();
        seen.add(start);
        open.add(start);
        int stuck = 0;
        while (!open.isEmpty()) {
            List<Integer> state = open.poll();
            int moves = 0;
            int gone = 0;
            for (int i = 0; i < wants.size(); i++) {
                if (state.get(i) == GONE) {
                    gone++;
                } else if (taken(state) < lines) {
                    moves++;
                    List<Integer> next = new ArrayList<>(state);
                    next.set(i, state.get(i) + 1 == wants.get(i) ? GONE : state.get(i) + 1);
                    if (seen.add(next)) {
                        open.add(next);
                    }
                }
            }
            if (moves == 0 && gone < wants.size()) {
                stuck++;
            }
        }
        return new int[] {seen.size(), stuck};
    }

    private static int taken(List<Integer> state) {
        int sum = 0;
        for (int has : state) {
            sum += has == GONE ? 0 : has;
        }
        return sum;
    }

    /** What was found of one crowd must not be told of another. */
    private static void changes(Check check) {
        LinePool x = new LinePool();
        x.crowd(2);
        check.due("states of one", x.states(2, 0), 3);
        x.crowd(2);
        check.due("states of two", x.states(2, 0), 9);
        check.due("stuck ones of two", x.states(2, 1), 1);
        check.due("states with fewer lines", x.states(1, 0), 3);
        x.scatter();
        check.due("states of none", x.states(1, 0), 1);
        x.crowd(2);
        x.crowd(2);
        check.due("states of two again", x.states(2, 0), 9);
        x.clear();
        check.due("states after clear", x.states(2, 0), 1);
    }

    private static void wrongNumbers(Check check) {
        LinePool x = new LinePool();
        x.crowd(2);
        for (int wrong : new int[] {Integer.MIN_VALUE, -1, 0, 25, Integer.MAX_VALUE}) {
            check.due("states(" + wrong + ", 0)", x.states(wrong, 0), -1);
        }
        for (int wrong : new int[] {Integer.MIN_VALUE, -1, 2, Integer.MAX_VALUE}) {
            check.due("states(1, " + wrong + ")", x.states(1, wrong), -1);
        }
    }
}
