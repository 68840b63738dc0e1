import java.util.ArrayDeque;
import java.util.ArrayList;
import java.util.Collections;
import java.util.HashSet;
import java.util.List;
import java.util.Set;

/** Promises 14 (crowd), 15 (scatter), 16 (states) and 17 (sure), by hand and against a walk over rows. */
public final class CrowdTest {
    private static final String CROWD = "Promise 14: crowd";
    private static final String SCATTER = "Promise 15: scatter";
    private static final String STATES = "Promise 16: states";
    private static final String SURE = "Promise 17: sure";
    private static final int GONE = 9;
    private static final int[][] CROWDS = {
        {}, {1}, {2}, {3}, {4}, {1, 1}, {1, 4}, {4, 1}, {2, 2}, {3, 2}, {4, 4}, {1, 2, 3}, {3, 2, 1},
        {2, 2, 2}, {4, 3, 2, 1}, {1, 1, 1, 1, 1, 1}, {2, 2, 2, 2, 2}, {4, 1, 4, 1, 4}, {1, 2, 3, 4, 1, 2},
        {4, 4, 4, 4, 4, 4}, {3, 3, 3, 3, 3, 3},
    };

    private CrowdTest() {
    }

    public static void main(String[] args) {
        Sentences all = new Sentences("CrowdTest");
        all.hold(CROWD, "One more of the CROWD who takes so many: how many they are.", CrowdTest::howManyTheyAre);
        all.hold(CROWD, "A CROWD: at most 6 who each take 1 .. 4 LINES", CrowdTest::atMostSix);
        all.hold(CROWD, "NONE: not 1 .. 4, or 6.", CrowdTest::refusedMembers);

        all.hold(SCATTER, "The CROWD is gone: how many they were.", CrowdTest::scatter);

        all.hold(STATES, "STATES with c LINES: rows of how many each has (one that is gone: 9), "
            + "as can be come to from all 0", CrowdTest::statesAgainstWalk);
        all.hold(STATES, "one by one, keep what they have, and go with all when they have all.", CrowdTest::keepAndGo);
        all.hold(STATES, "who takes one more (if not all c are taken)", CrowdTest::allTaken);
        all.hold(STATES, "who has then all: gone at once.", CrowdTest::goneAtOnce);
        all.hold(STATES, "STUCK: no move, not all gone.", CrowdTest::stuckOnes);
        all.hold(STATES, "With c LINES (1 .. 24), what 0: STATES, 1: STUCK ones.", CrowdTest::linesOfStates);
        all.hold(STATES, "what 0: STATES, 1: STUCK ones. NONE for others.", CrowdTest::otherStates);
        all.hold(STATES, "rows of how many each has", CrowdTest::statesOfAnotherCrowd);

        all.hold(SURE, "The least number of LINES with which, and with each greater one, no STATE is STUCK.",
            CrowdTest::sureAgainstStates);
        all.hold(SURE, "The least number of LINES", CrowdTest::leastSure);
        all.end();
    }

    private static LinePool of(int... takes) {
        LinePool x = new LinePool();
        for (int t : takes) {
            x.crowd(t);
        }
        return x;
    }

    private static void states(Check check, LinePool x, int c, int many, int stuck) {
        check.due("states(" + c + ", 0)", x.states(c, 0), many);
        check.due("states(" + c + ", 1)", x.states(c, 1), stuck);
    }

    private static void howManyTheyAre(Check check) {
        LinePool x = new LinePool();
        for (int i = 1; i <= 6; i++) {
            check.due("crowd, number " + i, x.crowd(1 + i % 4), i);
        }
        // each counts, the first as well as the last: 2, 3, 4, 1, 2, 3
        check.due("sure()", x.sure(), 1 + 1 + 2 + 3 + 0 + 1 + 2);
        states(check, x, 24, 3 * 4 * 5 * 2 * 3 * 4, 0);
    }

    private static void atMostSix(Check check) {
        LinePool x = new LinePool();
        for (int i = 1; i <= 5; i++) {
            x.crowd(4);
        }
        check.due("the sixth", x.crowd(4), 6);
        check.due("the seventh", x.crowd(4), -1);
        check.due("the seventh, who takes less", x.crowd(1), -1);
        check.due("sure()", x.sure(), 19);
        check.due("scatter()", x.scatter(), 6);
        LinePool y = new LinePool();
        check.due("who takes 1", y.crowd(1), 1);
        check.due("who takes 4", y.crowd(4), 2);
        check.due("sure()", y.sure(), 4);
        states(check, y, 24, 2 * 5, 0);
    }

    private static void refusedMembers(Check check) {
        for (int takes : new int[] {-1, 0, 5, Plays.MIN, Plays.MAX}) {
            check.refused("crowd(" + takes + ")", Plays::none, x -> x.crowd(takes), -1);
            check.refused("crowd(" + takes + ")", Plays::busy, x -> x.crowd(takes), -1);
        }
        for (int takes : new int[] {0, 1, 4, 5}) {
            check.refused("crowd(" + takes + ") of six", Plays::full, x -> x.crowd(takes), -1);
        }
    }

    private static void scatter(Check check) {
        LinePool x = new LinePool();
        check.due("scatter() of none", x.scatter(), 0);
        x.crowd(4);
        check.due("scatter() of one", x.scatter(), 1);
        check.due("scatter() again", x.scatter(), 0);
        check.due("sure() of none", x.sure(), 1);
        states(check, x, 1, 1, 0);
        for (int i = 1; i <= 6; i++) {
            check.due("crowd, number " + i + " behind scatter", x.crowd(2), i);
        }
        check.due("scatter() of six", x.scatter(), 6);
        check.due("crowd(3) behind scatter", x.crowd(3), 1);
        check.due("sure() of one", x.sure(), 3);
        // the pool is none of the crowd's
        check.same("scatter()", y -> {
            Plays.busy(y);
            y.scatter();
            y.crowd(3);
            y.crowd(2);
            y.crowd(4);
        }, Plays::busy);
        check.same("scatter() of none", LinePool::scatter, Plays::none);
    }

    private static void statesAgainstWalk(Check check) {
        for (int[] takes : CROWDS) {
            LinePool x = of(takes);
            List<Integer> wants = new ArrayList<>();
            for (int t : takes) {
                wants.add(t);
            }
            for (int c = 1; c <= 24; c++) {
                int[] walked = walk(wants, c);
                String of = " of " + wants + " with " + c + " lines";
                check.due("states" + of, x.states(c, 0), walked[0]);
                check.due("stuck ones" + of, x.states(c, 1), walked[1]);
                check.due("states again" + of, x.states(c, 0), walked[0]);
            }
        }
    }

    private static int[] walk(List<Integer> wants, int lines) {
        List<Integer> start = new ArrayList<>(Collections.nCopies(wants.size(), 0));
        Set<List<Integer>> seen = new HashSet<>();
        ArrayDeque<List<Integer>> open = new ArrayDeque<>();
        seen.add(start);
        open.add(start);
        int stuck = 0;
        while (!open.isEmpty()) {
            List<Integer> state = open.poll();
            int moves = 0;
            int gone = 0;
            for (int i = 0; i < wants.size(); i++) {
                if (state.get(i) == GONE) {
                    gone++;
                } else if (taken(state) < lines) {
                    moves++;
                    List<Integer> next = new ArrayList<>(state);
                    next.set(i, state.get(i) + 1 == wants.get(i) ? GONE : state.get(i) + 1);
                    if (seen.add(next)) {
                        open.add(next);
                    }
                }
            }
            if (moves == 0 && gone < wants.size()) {
                stuck++;
            }
        }
        return new int[] {seen.size(), stuck};
    }

    private static int taken(List<Integer> state) {
        int sum = 0;
        for (int has : state) {
            sum += has == GONE ? 0 : has;
        }
        return sum;
    }

    private static void keepAndGo(Check check) {
        // two who take four, with four lines: 13 rows in which both have up to three and four together, of
        // which 13, 22 and 31 are stuck; 4 and 4 in which one is gone and all four are the other's; both gone
        states(check, of(4, 4), 4, 13 + 4 + 4 + 1, 3);
        // with one line what one keeps is what the other lacks: 00, 01, 10
        states(check, of(4, 4), 1, 3, 2);
        // with seven there is always one that can go on
        states(check, of(4, 4), 7, 25, 0);
        states(check, of(4, 4), 6, 25, 1);
    }

    private static void allTaken(Check check) {
        // one who takes four: with fewer lines it stands still at as many as there are
        LinePool x = of(4);
        states(check, x, 1, 2, 1);
        states(check, x, 2, 3, 1);
        states(check, x, 3, 4, 1);
        states(check, x, 4, 5, 0);
        states(check, x, 5, 5, 0);
        // two who take two each: 00, 01, 10 with one line
        LinePool y = of(2, 2);
        states(check, y, 1, 3, 2);
        states(check, y, 2, 9, 1);
        states(check, y, 3, 9, 0);
    }

    private static void goneAtOnce(Check check) {
        // who takes one has all with the first, and its line is another's
        states(check, of(1), 1, 2, 0);
        states(check, of(1, 1), 1, 4, 0);
        states(check, of(1, 1, 1, 1, 1, 1), 1, 64, 0);
        // the one who takes two may go with the line that the other has given back
        states(check, of(2, 1), 2, 6, 0);
        // with one line: 00, 09, 10, 19, of which 10 and 19 are stuck
        states(check, of(2, 1), 1, 4, 2);
    }

    private static void stuckOnes(Check check) {
        // none at all are all gone, and so are these
        states(check, of(), 1, 1, 0);
        states(check, of(), 24, 1, 0);
        states(check, of(1), 24, 2, 0);
        states(check, of(4), 4, 5, 0);
        // one is gone, the other stuck
        states(check, of(1, 2), 1, 4, 2);
        // six who take four: each has three of 18, one way
        LinePool x = of(4, 4, 4, 4, 4, 4);
        states(check, x, 18, 15625, 1);
        states(check, x, 19, 15625, 0);
    }

    private static void linesOfStates(Check check) {
        LinePool x = of(2, 2);
        states(check, x, 1, 3, 2);
        states(check, x, 24, 9, 0);
        LinePool y = of(4, 4, 4, 4, 4, 4);
        states(check, y, 1, 7, 6);
        states(check, y, 24, 15625, 0);
        for (int c : new int[] {-1, 0, 25, Plays.MIN, Plays.MAX}) {
            check.refused("states(" + c + ", 0)", Plays::none, z -> z.states(c, 0), -1);
            check.refused("states(" + c + ", 0)", Plays::busy, z -> z.states(c, 0), -1);
            check.refused("states(" + c + ", 1)", Plays::busy, z -> z.states(c, 1), -1);
        }
        check.same("states(2, 0) and states(3, 1)", z -> {
            Plays.busy(z);
            z.states(2, 0);
            z.states(3, 1);
        }, Plays::busy);
    }

    private static void otherStates(Check check) {
        for (int what : new int[] {-1, 2, Plays.MIN, Plays.MAX}) {
            check.refused("states(1, " + what + ")", Plays::none, x -> x.states(1, what), -1);
            check.refused("states(1, " + what + ")", Plays::busy, x -> x.states(1, what), -1);
            check.refused("states(24, " + what + ")", Plays::busy, x -> x.states(24, what), -1);
            check.refused("states(25, " + what + ")", Plays::busy, x -> x.states(25, what), -1);
        }
        // a refused one leaves what was found as it was
        LinePool y = of(2, 2);
        states(check, y, 2, 9, 1);
        check.due("states(0, 0)", y.states(0, 0), -1);
        states(check, y, 2, 9, 1);
        check.due("crowd(5)", y.crowd(5), -1);
        states(check, y, 2, 9, 1);
    }

    /** What was found of one crowd must not be told of another. */
    private static void statesOfAnotherCrowd(Check check) {
        LinePool x = of(2);
        states(check, x, 2, 3, 0);
        x.crowd(2);
        states(check, x, 2, 9, 1);
        states(check, x, 1, 3, 2);
        x.scatter();
        states(check, x, 1, 1, 0);
        x.crowd(2);
        x.crowd(2);
        states(check, x, 2, 9, 1);
        x.clear();
        states(check, x, 2, 1, 0);
        check.due("sure()", x.sure(), 1);
    }

    /** No state is stuck with as many, nor with any greater number that states takes; one is with fewer. */
    private static void sureAgainstStates(Check check) {
        for (int[] takes : CROWDS) {
            LinePool x = of(takes);
            int sure = x.sure();
            for (int c = 1; c <= 24; c++) {
                check.due("whether one is stuck with " + c + " of " + takes.length, x.states(c, 1) > 0, c < sure);
            }
        }
    }

    private static void leastSure(Check check) {
        check.due("sure() of none", of().sure(), 1);
        check.due("sure() of one who takes 1", of(1).sure(), 1);
        check.due("sure() of six who take 1", of(1, 1, 1, 1, 1, 1).sure(), 1);
        check.due("sure() of one who takes 4", of(4).sure(), 4);
        check.due("sure() of two who take 2", of(2, 2).sure(), 3);
        check.due("sure() of six who take 4", of(4, 4, 4, 4, 4, 4).sure(), 19);
        check.same("sure()", x -> {
            Plays.busy(x);
            x.sure();
        }, Plays::busy);
    }
}
