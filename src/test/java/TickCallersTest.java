/** Promise 6 (run): what becomes of the callers in a TICK, steps 3, 4 and 5. */
public final class TickCallersTest {
    private static final String RUN = "Promise 6: run";

    private TickCallersTest() {
    }

    public static void main(String[] args) {
        Sentences all = new Sentences("TickCallersTest");
        all.hold(RUN, "FAILED is each CALLER at WORK one of whose LINES is BROKEN", TickCallersTest::failsByOneOfTwo);
        all.hold(RUN, "FAILED is each CALLER at WORK", TickCallersTest::failsOnlyAtWork);
        all.hold(RUN, "its BROKEN LINES are gone, its others IDLE since this TICK.", TickCallersTest::linesOfFailed);
        all.hold(RUN, "Then each other one at WORK does SPEED(k) of its WORK, k being how many these are.",
            TickCallersTest::othersWork);

        all.hold(RUN, "Of those at WORK with none left", TickCallersTest::noneLeft);
        all.hold(RUN, "Of those at WORK with none left, CALLER by CALLER:", TickCallersTest::callerByCaller);
        all.hold(RUN, "PLAIN: DONE, its LINE is IDLE since this TICK.", TickCallersTest::plainDone);
        all.hold(RUN, "LEAKING: HOLDING.", TickCallersTest::leakingHolds);
        all.hold(RUN, "NESTED: the first time WAITING for a second LINE (since this TICK, with its LINE kept), "
            + "its WORK being as at first", TickCallersTest::nestedFirstTime);
        all.hold(RUN, "the second time DONE, both IDLE.", TickCallersTest::nestedSecondTime);
        all.hold(RUN, "each CALLER that has a LINE LENT for LEAK TICKS or more (TICK less since) is LEAKED",
            TickCallersTest::leaksAtLeak);
        all.hold(RUN, "each CALLER that has a LINE LENT", TickCallersTest::leaksInEachState);
        all.hold(RUN, "all its LINES are IDLE since this TICK (one that is TRYING for it, too).",
            TickCallersTest::linesOfLeaked);

        all.hold(RUN, "CALLERS that come are WAITING since this TICK.", TickCallersTest::come);
        all.hold(RUN, "Those WAITING for more than PATIENCE TICKS (TICK less since) give UP",
            TickCallersTest::giveUpBehindPatience);
        all.hold(RUN, "Those WAITING for more than PATIENCE TICKS", TickCallersTest::onlyWaitingGiveUp);
        all.hold(RUN, "give UP: their LINES are IDLE since this TICK.", TickCallersTest::linesOfThoseUp);
        all.end();
    }

    private static int[] row(int number, int tick, int caller, int slot) {
        return Check.row(number, tick, caller, slot);
    }

    /** In TICK 3, behind its first work of 10, its second line idle, to be lent in TICK 4. */
    private static LinePool nestedBehindFirst(int tryTicks) {
        LinePool x = Plays.quick(3, tryTicks, 0);
        x.caller(2, 0, 100, 10, 1);
        x.run(3);
        return x;
    }

    private static void failsByOneOfTwo(Check check) {
        LinePool whole = nestedBehindFirst(-1);
        whole.run(2);
        check.told(whole, 0, 5, 0, 0, 3);
        for (int slot = 0; slot <= 1; slot++) {
            LinePool x = nestedBehindFirst(-1);
            x.broken(5, slot);
            x.run(2);
            check.told(x, 0, 6, 10, 0, 3);
            check.count(x, 8, 1);
            check.slot(x, slot, 0, 0, -1, 0, 0);
            check.slot(x, 1 - slot, 2, 0, -1, 0, 5);
            check.latestEvents(x, row(1, 4, 0, 1), row(3, 5, 0, -1), row(7, 5, -1, slot));
        }
        LinePool y = nestedBehindFirst(-1);
        y.broken(5, 0);
        y.broken(5, 1);
        y.run(2);
        check.told(y, 0, 6, 10, 0, 3);
        check.count(y, 4, 0);
        check.latestEvents(y, row(3, 5, 0, -1), row(7, 5, -1, 0), row(7, 5, -1, 1));
    }

    /** Who waits, tries or holds has its line broken, and does not fail of it. */
    private static void failsOnlyAtWork(Check check) {
        LinePool waits = Plays.quick(1, -1, 0);
        waits.caller(2, 0, 100, 10, 1);
        waits.broken(4, 0);
        waits.run(9);
        check.told(waits, 0, 1, 10, 1, 3);
        check.slot(waits, 0, 4, 1, 0, 0, 2);
        check.count(waits, 8, 0);
        // it sees it as soon as it is at work again
        waits.set(0, 2);
        waits.run(2);
        check.told(waits, 0, 3, 10, 2, 3);
        waits.run(1);
        check.told(waits, 0, 6, 10, 0, 3);

        LinePool tries = Plays.quick(2, 3, 0);
        tries.caller(2, 0, 100, 10, 1);
        tries.run(6);
        tries.broken(7, 0);
        tries.run(2);
        check.told(tries, 0, 2, 10, 1, 5);
        check.slot(tries, 0, 4, 1, 0, 0, 5);
        // lent in step 2, at work, and failed in step 3 of the same tick
        tries.run(1);
        check.told(tries, 0, 6, 10, 0, 5);
        check.slot(tries, 0, 0);
        check.slot(tries, 1, 2, 0, -1, 0, 9);
        check.latestEvents(tries, row(1, 9, 0, 1), row(3, 9, 0, -1), row(7, 9, -1, 0));

        LinePool holds = Plays.quick(1, -1, 1);
        holds.caller(1, 0, 0, 10, 2);
        holds.broken(4, 0);
        holds.run(9);
        check.told(holds, 0, 4, 0, 1, 2);
        check.slot(holds, 0, 4, 1, 0, 0, 2);
        check.count(holds, 8, 0);

        // broken in the tick in which the work would be done: it fails ahead of it
        LinePool works = Plays.quick(1, -1, 1);
        works.caller(0, 0, 0, 10, 2);
        works.broken(3, 0);
        check.due("run(3)", works.run(3), 0);
        check.told(works, 0, 6, 10, 0, 2);
    }

    private static void linesOfFailed(Check check) {
        LinePool x = Plays.quick(2, -1, 2);
        x.caller(0, 5, 0, 100, 2);
        x.caller(0, 3, 0, 100, 2);
        x.broken(3, 0);
        x.broken(3, 1);
        x.run(3);
        check.latestEvents(x, row(0, 2, 0, -1), row(0, 2, 1, -1), row(1, 2, 1, 0), row(1, 2, 0, 1),
            row(3, 3, 0, -1), row(7, 3, -1, 1), row(3, 3, 1, -1), row(7, 3, -1, 0),
            row(6, 3, -1, 0), row(6, 3, -1, 1));
        check.slot(x, 0, 2, 0, -1, 0, 3);
        check.slot(x, 1, 2, 0, -1, 0, 3);

        // the whole one is idle since this tick, and so lent to another in the same tick
        LinePool y = nestedBehindFirst(-1);
        y.broken(5, 0);
        y.caller(0, 0, 0, 100, 5);
        y.run(2);
        check.told(y, 0, 6, 10, 0, 3);
        check.slot(y, 0, 0);
        check.slot(y, 1, 4, 0, 1, 0, 5);
    }

    private static void othersWork(Check check) {
        LinePool x = Plays.quick(3, -1, 3);
        x.speed(1, 3);
        x.speed(2, 7);
        x.speed(3, 9);
        Plays.comers(x, 3, 0, 100, 2);
        x.broken(4, 0);
        x.broken(5, 1);
        x.run(3);
        check.told(x, 2, 3, 91, 1, 2);
        x.run(1);
        check.told(x, 0, 6, 91, 0, 2);
        check.told(x, 1, 3, 84, 1, 2);
        check.told(x, 2, 3, 84, 1, 2);
        x.run(1);
        check.told(x, 1, 6, 84, 0, 2);
        check.told(x, 2, 3, 81, 1, 2);

        // all fail, none works
        LinePool y = Plays.quick(2, -1, 2);
        Plays.comers(y, 2, 0, 100, 2);
        y.broken(3, 0);
        y.broken(3, 1);
        y.run(3);
        check.told(y, 0, 6, 100, 0, 2);
        check.told(y, 1, 6, 100, 0, 2);
        check.count(y, 3, 0);

        // who is lent its line in step 2 of this tick is one of these, who tries or holds is none
        LinePool z = Plays.quick(3, 2, 3);
        z.speed(2, 7);
        z.caller(1, 0, 0, 10, 2);
        z.caller(0, 0, 0, 100, 3);
        z.caller(0, 0, 0, 100, 5);
        z.run(4);
        check.told(z, 0, 4, 0, 1, 2);
        z.run(1);
        check.told(z, 1, 3, 90, 1, 3);
        z.run(1);
        check.told(z, 1, 3, 80, 1, 3);
        check.told(z, 2, 2, 100, 0, 5);
        z.run(1);
        check.told(z, 1, 3, 73, 1, 3);
        check.told(z, 2, 3, 93, 1, 5);
    }

    private static void noneLeft(Check check) {
        int[][] leftBehindOne = {{9, 0}, {10, 0}, {11, 1}, {19, 9}, {20, 10}, {21, 11}};
        for (int[] row : leftBehindOne) {
            LinePool x = Plays.quick(1, -1, 1);
            x.caller(0, 0, 0, row[0], 2);
            x.run(2);
            check.told(x, 0, 3, row[0], 1);
            check.due("done by one tick of work " + row[0], x.run(1), row[1] == 0 ? 1 : 0);
            check.told(x, 0, row[1] == 0 ? 5 : 3, row[1], row[1] == 0 ? 0 : 1);
            if (row[1] > 0) {
                check.due("done by two ticks of work " + row[0], x.run(1), row[1] <= 10 ? 1 : 0);
                check.told(x, 0, row[1] <= 10 ? 5 : 3, row[1] <= 10 ? 0 : row[1] - 10);
            }
        }
        LinePool most = Plays.quick(1, -1, 1);
        most.speed(1, 100);
        most.caller(0, 0, 0, 1, 2);
        check.due("run(3)", most.run(3), 1);
        check.told(most, 0, 5, 0, 0, 2);
    }

    /** The kinds mixed, the slots in the other order. */
    private static void callerByCaller(Check check) {
        LinePool x = Plays.quick(4, -1, 4);
        x.caller(0, 3, 0, 10, 2);
        x.caller(1, 2, 0, 10, 2);
        x.caller(2, 1, 0, 10, 2);
        x.caller(0, 0, 0, 10, 2);
        check.due("run(3)", x.run(3), 2);
        check.latestEvents(x, row(1, 2, 3, 0), row(1, 2, 2, 1), row(1, 2, 1, 2), row(1, 2, 0, 3), row(2, 3, 0, -1),
            row(2, 3, 3, -1), row(1, 3, 2, 0));
        check.told(x, 1, 4);
        check.told(x, 2, 3, 10, 2, 3);
    }

    private static void plainDone(Check check) {
        LinePool x = Plays.quick(2, -1, 2);
        x.caller(0, 0, 0, 10, 2);
        x.caller(0, 0, 0, 10, 2);
        x.caller(0, 0, 0, 10, 3);
        check.due("run(3)", x.run(3), 2);
        check.told(x, 0, 5, 0, 0, 2);
        // its line is lent anew in the tick in which it is idle
        check.slot(x, 0, 4, 0, 2, 0, 3);
        check.slot(x, 1, 2, 0, -1, 0, 3);
        check.latestEvents(x, row(2, 3, 0, -1), row(2, 3, 1, -1), row(0, 3, 2, -1), row(1, 3, 2, 0));
    }

    private static void leakingHolds(Check check) {
        LinePool x = Plays.quick(1, -1, 1);
        x.set(3, 5);
        x.caller(1, 0, 0, 10, 2);
        x.caller(0, 0, 9, 10, 2);
        x.run(3);
        check.told(x, 0, 4, 0, 1, 2);
        check.slot(x, 0, 4, 0, 0, 0, 2);
        check.count(x, 3, 0);
        check.count(x, 6, 1);
        check.count(x, 7, 0);
        x.run(3);
        check.told(x, 0, 4, 0, 1, 2);
        check.due("run(1)", x.run(1), 0);
        check.told(x, 0, 7, 0, 0, 2);
        check.slot(x, 0, 4, 0, 1, 0, 7);
        check.allEvents(x, row(6, 1, -1, 0), row(0, 2, 0, -1), row(0, 2, 1, -1), row(1, 2, 0, 0), row(4, 7, 0, -1),
            row(1, 7, 1, 0));
    }

    private static void nestedFirstTime(Check check) {
        LinePool x = nestedBehindFirst(-1);
        check.told(x, 0, 1, 10, 1, 3);
        check.slot(x, 0, 4, 0, 0, 0, 2);
        check.slot(x, 1, 2, 0, -1, 0, 3);
        check.count(x, 2, 1);
        check.count(x, 7, 0);
        x.run(1);
        check.told(x, 0, 3, 10, 2, 3);
        check.slot(x, 0, 4, 0, 0, 0, 2);
        check.slot(x, 1, 4, 0, 0, 0, 4);

        // with a second line idle it waits no tick
        LinePool y = Plays.quick(2, -1, 2);
        y.caller(2, 0, 0, 25, 2);
        y.run(4);
        check.told(y, 0, 3, 5, 1, 2);
        y.run(1);
        check.told(y, 0, 3, 25, 2, 5);
        check.slot(y, 1, 4, 0, 0, 0, 5);

        // with no second line to come it waits, its patience counting from then on
        LinePool z = Plays.quick(1, -1, 0);
        z.caller(2, 0, 1, 10, 1);
        z.run(4);
        check.told(z, 0, 1, 10, 1, 3);
        z.run(1);
        check.told(z, 0, 8, 10, 0, 3);
    }

    private static void nestedSecondTime(Check check) {
        LinePool x = nestedBehindFirst(-1);
        x.run(1);
        check.due("run(1)", x.run(1), 1);
        check.told(x, 0, 5, 0, 0, 3);
        check.slot(x, 0, 2, 0, -1, 0, 5);
        check.slot(x, 1, 2, 0, -1, 0, 5);
        check.count(x, 7, 1);
        check.allEvents(x, row(0, 1, 0, -1), row(6, 1, -1, 0), row(1, 2, 0, 0), row(6, 3, -1, 1),
            row(1, 4, 0, 1), row(2, 5, 0, -1));

        LinePool y = Plays.quick(2, -1, 2);
        y.caller(2, 0, 0, 11, 2);
        check.due("run(5)", y.run(5), 0);
        check.told(y, 0, 3, 1, 2, 4);
        check.due("run(1)", y.run(1), 1);
    }

    private static void leaksAtLeak(Check check) {
        LinePool x = Plays.quick(1, -1, 1);
        x.set(3, 5);
        x.caller(0, 0, 0, 1000, 2);
        x.run(5);
        x.run(1);
        check.told(x, 0, 3, 960, 1, 2);
        check.slot(x, 0, 4, 0, 0, 0, 2);
        check.count(x, 9, 0);
        x.run(1);
        check.told(x, 0, 7, 950, 0, 2);
        check.slot(x, 0, 2, 0, -1, 0, 7);
        check.count(x, 9, 1);

        // for more ticks than leak, since it was greater until now
        LinePool y = Plays.quick(1, -1, 1);
        y.caller(0, 0, 0, 1000, 2);
        y.run(20);
        check.told(y, 0, 3, 820, 1, 2);
        y.set(3, 3);
        y.run(1);
        check.told(y, 0, 7, 810, 0, 2);

        // who is done in the tick of its leak is done, who has one left is not
        LinePool z = Plays.quick(3, -1, 3);
        z.set(3, 2);
        z.caller(1, 0, 0, 10, 2);
        z.caller(0, 0, 0, 20, 2);
        z.caller(0, 0, 0, 21, 2);
        check.due("run(4)", z.run(4), 1);
        check.told(z, 0, 7, 0, 0, 2);
        check.told(z, 1, 5, 0, 0, 2);
        check.told(z, 2, 7, 1, 0, 2);
        check.latestEvents(z, row(1, 2, 2, 2), row(2, 4, 1, -1), row(4, 4, 0, -1), row(4, 4, 2, -1));
    }

    /** At work, holding, waiting for a second line and trying one. */
    private static void leaksInEachState(Check check) {
        int[] kinds = {0, 1, 2};
        int[] works = {1000, 10, 10};
        int[] states = {3, 4, 1};
        for (int i = 0; i < 3; i++) {
            LinePool x = Plays.quick(1, -1, 1);
            x.set(3, 4);
            x.caller(kinds[i], 0, 1000, works[i], 2);
            x.run(5);
            check.told(x, 0, states[i]);
            x.run(1);
            check.told(x, 0, 7);
            check.due("told(0, 2)", x.told(0, 2), 0);
            check.count(x, 9, 1);
        }
        // who has no line but the one it tries has none that is lent
        LinePool y = Plays.quick(1, 20, 1);
        y.set(3, 1);
        y.caller(0, 0, 0, 1000, 2);
        y.run(21);
        check.told(y, 0, 2);
        y.run(1);
        check.told(y, 0, 3);
        y.run(1);
        check.told(y, 0, 7);
    }

    private static void linesOfLeaked(Check check) {
        LinePool x = Plays.quick(2, 3, 0);
        x.set(3, 3);
        x.caller(2, 0, 100, 10, 1);
        x.run(5);
        check.told(x, 0, 1, 10, 1, 5);
        x.run(1);
        check.told(x, 0, 2, 10, 1, 5);
        check.slot(x, 1, 3, 0, 0, 3, 0);
        x.run(1);
        check.count(x, 9, 0);
        x.run(1);
        check.told(x, 0, 7, 10, 0, 5);
        check.slot(x, 0, 2, 0, -1, 0, 8);
        check.slot(x, 1, 2, 0, -1, 0, 8);
        check.count(x, 9, 1);
        check.count(x, 15, 1);
        check.latestEvents(x, row(8, 6, 0, 1), row(4, 8, 0, -1));
        x.run(5);
        check.slot(x, 1, 2, 0, -1, 0, 8);

        // the second line is lent for less than leak
        LinePool y = Plays.quick(2, -1, 2);
        y.set(3, 3);
        y.caller(2, 0, 0, 20, 2);
        y.run(5);
        check.told(y, 0, 7, 10, 0, 4);
        check.slot(y, 0, 2, 0, -1, 0, 5);
        check.slot(y, 1, 2, 0, -1, 0, 5);

        // a broken one stays broken
        LinePool z = Plays.quick(1, -1, 1);
        z.set(3, 5);
        z.caller(1, 0, 0, 10, 2);
        z.broken(4, 0);
        z.run(7);
        check.told(z, 0, 7, 0, 0, 2);
        check.slot(z, 0, 2, 1, -1, 0, 7);
    }

    private static void come(Check check) {
        LinePool x = Plays.quick(1, -1, 0);
        x.caller(0, 0, 9, 10, 3);
        x.caller(0, 0, 9, 10, 3);
        x.run(2);
        check.told(x, 0, 0, 10, 0, 0);
        check.count(x, 2, 0);
        check.count(x, 17, 0);
        x.run(1);
        check.told(x, 0, 1, 10, 0, 3);
        check.told(x, 1, 1, 10, 0, 3);
        check.count(x, 2, 2);
        check.allEvents(x, row(0, 3, 0, -1), row(0, 3, 1, -1), row(6, 3, -1, 0));
    }

    private static void giveUpBehindPatience(Check check) {
        LinePool x = Plays.quick(1, -1, 0);
        x.caller(1, 0, 9, 1, 1);
        x.caller(0, 0, 0, 1, 3);
        x.caller(0, 0, 1, 1, 4);
        x.run(3);
        check.told(x, 1, 1, 1, 0, 3);
        x.run(1);
        check.told(x, 1, 8, 1, 0, 3);
        check.told(x, 2, 1, 1, 0, 4);
        check.latestEvents(x, row(0, 4, 2, -1), row(5, 4, 1, -1));
        x.run(1);
        check.told(x, 2, 1, 1, 0, 4);
        x.run(1);
        check.told(x, 2, 8, 1, 0, 4);
        check.count(x, 10, 2);

        // an idle line comes too late for who gives up in the same tick
        LinePool y = Plays.quick(1, -1, 1);
        y.caller(0, 0, 0, 30, 2);
        y.caller(0, 0, 2, 10, 2);
        y.caller(0, 0, 3, 10, 2);
        y.run(4);
        check.told(y, 1, 1);
        y.run(1);
        check.told(y, 0, 5);
        check.told(y, 1, 8);
        check.told(y, 2, 3);
    }

    /** A try lasts longer than the patience, which runs on if it fails. */
    private static void onlyWaitingGiveUp(Check check) {
        LinePool x = Plays.quick(1, 20, 1);
        x.caller(0, 0, 0, 1000, 2);
        x.run(21);
        check.told(x, 0, 2, 1000, 0, 2);
        x.run(1);
        check.told(x, 0, 3, 990, 1, 2);
        x.run(50);
        check.told(x, 0, 3, 490, 1, 2);
        check.count(x, 10, 0);

        LinePool y = Plays.quick(1, -1, 1);
        y.caller(1, 0, 0, 10, 2);
        y.run(50);
        check.told(y, 0, 4, 0, 1, 2);
        check.count(y, 10, 0);

        LinePool z = Plays.quick(1, 2, 0);
        z.caller(0, 0, 2, 100, 1);
        z.broken(3, 0);
        z.run(4);
        check.told(z, 0, 8, 100, 0, 1);
        check.count(z, 10, 1);
        check.latestEvents(z, row(8, 2, 0, 0), row(7, 4, -1, 0), row(5, 4, 0, -1));
    }

    private static void linesOfThoseUp(Check check) {
        LinePool x = Plays.quick(1, -1, 0);
        x.caller(2, 0, 1, 10, 1);
        x.run(4);
        check.told(x, 0, 1, 10, 1, 3);
        x.broken(5, 0);
        x.run(1);
        check.told(x, 0, 8, 10, 0, 3);
        check.slot(x, 0, 2, 1, -1, 0, 5);
        check.count(x, 10, 1);
        check.latestEvents(x, row(1, 2, 0, 0), row(5, 5, 0, -1));

        // the line is another's in the same tick
        LinePool y = Plays.quick(1, -1, 0);
        y.caller(2, 0, 1, 10, 1);
        y.caller(0, 9, 100, 10, 1);
        y.run(5);
        check.told(y, 0, 8, 10, 0, 3);
        check.slot(y, 0, 4, 0, 1, 0, 5);
    }
}
