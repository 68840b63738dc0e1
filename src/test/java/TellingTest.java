/** Promises 4 (caller) and 5 (broken): what is taken and what is refused. */
public final class TellingTest {
    private static final String CALLER = "Promise 4: caller";
    private static final String BROKEN = "Promise 5: broken";
    /** The TICK that is behind Plays.busy. */
    private static final int BUSY = 11;

    private TellingTest() {
    }

    public static void main(String[] args) {
        Sentences all = new Sentences("TellingTest");
        all.hold(CALLER, "A CALLER is told: its number.", TellingTest::itsNumber);
        all.hold(CALLER, "a KIND: 0 PLAIN, 1 LEAKING, 2 NESTED", TellingTest::kind);
        all.hold(CALLER, "RANK 0 .. 9", TellingTest::rank);
        all.hold(CALLER, "PATIENCE 0 .. 1000", TellingTest::patience);
        all.hold(CALLER, "WORK 1 .. 1000", TellingTest::work);
        all.hold(CALLER, "the TICK in which it comes (above the TICK that is, at most 5000)", TellingTest::comes);
        all.hold(CALLER, "CALLERS 0 .. as they are told, at most 60", TellingTest::atMostSixtyCallers);
        all.hold(CALLER, "Refused: numbers not as told, 60.", TellingTest::refusedCallers);

        all.hold(BROKEN, "A BREAK is told: true.", TellingTest::breakTold);
        all.hold(BROKEN, "a TICK (above the one that is, at most 5000)", TellingTest::breakTick);
        all.hold(BROKEN, "THE POOL has SLOTS 0 .. 11", TellingTest::breakSlot);
        all.hold(BROKEN, "BREAKS: at most 60 pairs", TellingTest::atMostSixtyBreaks);
        all.hold(BROKEN, "Refused: numbers not as told, 60.", TellingTest::refusedBreaks);
        all.end();
    }

    private static void itsNumber(Check check) {
        LinePool x = new LinePool();
        check.toldThrows(x, 0, 0);
        check.due("the first", x.caller(2, 7, 30, 40, 5), 0);
        check.count(x, 1, 1);
        check.told(x, 0, 0, 40, 0, 0, 2, 7);
        check.toldThrows(x, 1, 0);
        check.due("the second", x.caller(1, 3, 20, 15, 5), 1);
        check.told(x, 1, 0, 15, 0, 0, 1, 3);
        check.due("the same again is another", x.caller(1, 3, 20, 15, 5), 2);
        check.count(x, 1, 3);
        check.due("a refused one", x.caller(1, 3, 20, 15, 0), -1);
        check.due("the next one behind it", x.caller(0, 3, 20, 15, 5), 3);
    }

    private static void refusedCaller(Check check, int kind, int rank, int patience, int work, int tick) {
        String call = "caller(" + kind + ", " + rank + ", " + patience + ", " + work + ", " + tick + ")";
        check.refused(call, Plays::busy, x -> x.caller(kind, rank, patience, work, tick), -1);
    }

    /** Each kind behind its first work, all having a second line to take. */
    private static void kind(Check check) {
        int[] states = {5, 4, 3};
        int[] lines = {0, 1, 2};
        for (int kind = 0; kind <= 2; kind++) {
            LinePool x = Plays.quick(2, -1, 2);
            check.due("a caller of kind " + kind, x.caller(kind, 0, 0, 10, 2), 0);
            x.run(3);
            check.due("the state of kind " + kind, x.told(0, 0), states[kind]);
            check.due("the lines of kind " + kind, x.told(0, 2), lines[kind]);
            check.due("the kind", x.told(0, 4), kind);
        }
        for (int wrong : new int[] {-1, 3, Plays.MIN, Plays.MAX}) {
            refusedCaller(check, wrong, 0, 0, 1, BUSY + 1);
        }
    }

    private static void rank(Check check) {
        LinePool x = Plays.quick(1, -1, 1);
        check.due("the greatest rank", x.caller(0, 9, 9, 1000, 2), 0);
        check.due("the least rank", x.caller(0, 0, 9, 1000, 2), 1);
        check.due("its rank", x.told(0, 5), 9);
        check.due("its rank", x.told(1, 5), 0);
        x.run(2);
        check.told(x, 0, 1);
        check.told(x, 1, 3);
        for (int wrong : new int[] {-1, 10, Plays.MIN, Plays.MAX}) {
            refusedCaller(check, 0, wrong, 0, 1, BUSY + 1);
        }
    }

    /** One holds the only line, so that the other waits as long as its patience lasts and not longer. */
    private static void patience(Check check) {
        for (int patience : new int[] {0, 1, 1000}) {
            LinePool x = Plays.quick(1, -1, 0);
            check.due("the one who holds", x.caller(1, 0, 9, 1, 1), 0);
            check.due("patience " + patience, x.caller(0, 0, patience, 1, 1), 1);
            Plays.runTo(x, 1 + patience);
            check.told(x, 1, 1, 1, 0, 1);
            x.run(1);
            check.told(x, 1, 8, 1, 0, 1);
        }
        for (int wrong : new int[] {-1, 1001, Plays.MIN, Plays.MAX}) {
            refusedCaller(check, 0, 0, wrong, 1, BUSY + 1);
        }
    }

    private static void work(Check check) {
        LinePool x = Plays.quick(2, -1, 2);
        x.speed(1, 1);
        check.due("the least work", x.caller(0, 0, 0, 1, 2), 0);
        check.told(x, 0, 0, 1, 0, 0);
        check.due("done in the tick of the lending", x.run(2), 0);
        check.due("done in the next one", x.run(1), 1);
        check.due("the most work", x.caller(0, 0, 0, 1000, 4), 1);
        check.told(x, 1, 0, 1000, 0, 0);
        x.run(1);
        check.due("done in 499 ticks", x.run(499), 0);
        check.due("done in 499 more", x.run(499), 0);
        check.told(x, 1, 3, 2, 1, 4);
        x.run(1);
        check.told(x, 1, 3, 1, 1, 4);
        // the thousandth piece is done in the tick in which the line would leak
        check.due("done in the thousandth", x.run(1), 1);
        for (int wrong : new int[] {-1, 0, 1001, Plays.MIN, Plays.MAX}) {
            refusedCaller(check, 0, 0, 0, wrong, BUSY + 1);
        }
    }

    private static void comes(Check check) {
        LinePool x = new LinePool();
        check.due("in TICK 1", x.caller(0, 0, 0, 1, 1), 0);
        check.due("in TICK 5000", x.caller(0, 0, 0, 1, 5000), 1);
        x.run(1);
        check.told(x, 0, 1, 1, 0, 1);
        Plays.runTo(x, 4998);
        check.due("in the next tick", x.caller(0, 0, 0, 1, 4999), 2);
        check.due("in the tick that is", x.caller(0, 0, 0, 1, 4998), -1);
        x.run(1);
        check.told(x, 1, 0, 1, 0, 0);
        check.due("in TICK 5000, the next one", x.caller(0, 0, 0, 1, 5000), 3);
        x.run(1);
        check.due("told(1, 3)", x.told(1, 3), 5000);
        check.due("told(3, 3)", x.told(3, 3), 5000);
        check.due("told(3, 0)", x.told(3, 0), 1);
        check.due("behind TICK 5000", x.caller(0, 0, 0, 1, 5001), -1);
        check.due("in TICK 5000, which is", x.caller(0, 0, 0, 1, 5000), -1);
        check.count(x, 1, 4);
        for (int wrong : new int[] {0, -1, 5001, Plays.MIN, Plays.MAX}) {
            check.refused("caller in " + wrong, Plays::none, y -> y.caller(0, 0, 0, 1, wrong), -1);
        }
        for (int wrong : new int[] {BUSY, BUSY - 1, 0, -1, 5001, Plays.MIN, Plays.MAX}) {
            refusedCaller(check, 0, 0, 0, 1, wrong);
        }
    }

    private static void atMostSixtyCallers(Check check) {
        LinePool x = new LinePool();
        for (int i = 0; i < 60; i++) {
            check.due("caller " + i, x.caller(0, i % 10, 0, 1 + i, 1), i);
        }
        check.due("one more", x.caller(0, 0, 0, 1, 1), -1);
        check.count(x, 1, 60);
        check.told(x, 59, 0, 60, 0, 0, 0, 9);
        check.toldThrows(x, 60, 0);
        // they count as told when they are gone, too
        x.run(200);
        check.due("all that are gone", x.count(7) + x.count(10), 60);
        check.due("one more when all are gone", x.caller(0, 0, 0, 1, 300), -1);
        x.clear();
        check.due("the first behind clear", x.caller(0, 0, 0, 1, 1), 0);
        check.count(x, 1, 1);
    }

    private static void refusedCallers(Check check) {
        check.refused("the 61st caller", Plays::full, x -> x.caller(0, 0, 0, 1, 2), -1);
        check.refused("the 61st caller, wrong as well", Plays::full, x -> x.caller(3, 0, 0, 1, 2), -1);
        refusedCaller(check, 3, 10, 1001, 1001, 5001);
        refusedCaller(check, -1, -1, -1, 0, 0);
    }

    private static void breakTold(Check check) {
        LinePool x = Plays.quick(12, -1, 12);
        check.due("broken(2, 3)", x.broken(2, 3), true);
        check.due("the same again", x.broken(2, 3), true);
        check.due("another slot", x.broken(2, 5), true);
        check.due("another tick", x.broken(3, 6), true);
        x.run(2);
        for (int s = 0; s < 12; s++) {
            check.slot(x, s, 2, s == 3 || s == 5 ? 1 : 0, -1, 0, 1);
        }
        x.run(1);
        check.due("slot(6, 1)", x.slot(6, 1), 1);
        check.due("a refused one", x.broken(3, 7), false);
    }

    private static void refusedBreak(Check check, int tick, int slot) {
        String call = "broken(" + tick + ", " + slot + ")";
        check.refused(call, Plays::busy, x -> x.broken(tick, slot) ? 1 : 0, 0);
    }

    private static void breakTick(Check check) {
        LinePool x = Plays.quick(12, -1, 12);
        check.due("in TICK 1", x.broken(1, 0), true);
        check.due("in TICK 5000", x.broken(5000, 1), true);
        x.run(1);
        check.due("in the tick that is", x.broken(1, 2), false);
        check.due("in the next tick", x.broken(2, 2), true);
        x.run(1);
        check.due("slot(2, 1)", x.slot(2, 1), 1);
        Plays.runTo(x, 4999);
        check.due("in TICK 5000, the next one", x.broken(5000, 3), true);
        check.due("slot(1, 1) ahead of TICK 5000", x.slot(1, 1), 0);
        x.run(1);
        check.due("slot(1, 1) in TICK 5000", x.slot(1, 1), 1);
        check.due("slot(3, 1) in TICK 5000", x.slot(3, 1), 1);
        check.due("in TICK 5000, which is", x.broken(5000, 4), false);
        check.due("behind TICK 5000", x.broken(5001, 4), false);
        x.run(1);
        check.due("slot(4, 1) behind all", x.slot(4, 1), 0);
        for (int wrong : new int[] {0, -1, 5001, Plays.MIN, Plays.MAX}) {
            check.refused("broken in " + wrong, Plays::none, y -> y.broken(wrong, 0) ? 1 : 0, 0);
        }
        for (int wrong : new int[] {BUSY, BUSY - 1, 0, -1, 5001, Plays.MIN, Plays.MAX}) {
            refusedBreak(check, wrong, 0);
        }
    }

    private static void breakSlot(Check check) {
        LinePool x = Plays.quick(12, -1, 12);
        check.due("the first slot", x.broken(2, 0), true);
        check.due("the last slot", x.broken(2, 11), true);
        x.run(2);
        for (int s = 0; s < 12; s++) {
            check.due("slot(" + s + ", 1)", x.slot(s, 1), s == 0 || s == 11 ? 1 : 0);
        }
        for (int wrong : new int[] {-1, 12, Plays.MIN, Plays.MAX}) {
            refusedBreak(check, BUSY + 1, wrong);
        }
    }

    private static void atMostSixtyBreaks(Check check) {
        LinePool x = Plays.quick(12, -1, 12);
        for (int i = 0; i < 59; i++) {
            check.due("break " + i, x.broken(100, 0), true);
        }
        check.due("the 60th", x.broken(2, 11), true);
        check.due("the 61st", x.broken(2, 10), false);
        check.due("the 61st, the same as one told", x.broken(100, 0), false);
        x.run(2);
        check.due("the 60th break strikes", x.slot(11, 1), 1);
        check.due("a refused one does not", x.slot(10, 1), 0);
        // they count as told when they are past, too
        check.due("the 61st when one is past", x.broken(3, 10), false);
        x.run(98);
        check.due("the 61st when all are past", x.broken(101, 10), false);
        x.clear();
        for (int i = 0; i < 60; i++) {
            check.due("break " + i + " behind clear", x.broken(2, 10), true);
        }
        check.due("the 61st behind clear", x.broken(2, 9), false);
    }

    private static void refusedBreaks(Check check) {
        check.refused("the 61st break", Plays::full, x -> x.broken(2, 0) ? 1 : 0, 0);
        check.refused("the 61st break, wrong as well", Plays::full, x -> x.broken(1, 12) ? 1 : 0, 0);
        refusedBreak(check, 5001, 12);
        refusedBreak(check, BUSY, -1);
    }
}
