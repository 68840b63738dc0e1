/** Promise 6 (run): what becomes of the lines in a TICK, steps 1, 2, 6 and 7. */
public final class TickLinesTest {
    private static final String RUN = "Promise 6: run";

    private TickLinesTest() {
    }

    public static void main(String[] args) {
        Sentences all = new Sentences("TickLinesTest");
        all.hold(RUN, "BREAKS of this TICK: a LINE in this SLOT (if there is one) is BROKEN.", TickLinesTest::breaks);
        all.hold(RUN, "a LINE in this SLOT (if there is one) is BROKEN.", TickLinesTest::breaksWithoutLine);
        all.hold(RUN, "one that is OPENING, IDLE, TRYING or LENT, and perhaps BROKEN",
            TickLinesTest::breaksInEachState);

        all.hold(RUN, "2 SLOT by SLOT:", TickLinesTest::slotBySlot);
        all.hold(RUN, "OPENING: one TICK less to go; with 0 it is IDLE since this TICK.", TickLinesTest::opening);
        all.hold(RUN, "TRYING: one less; with 0:", TickLinesTest::trying);
        all.hold(RUN, "if it is BROKEN it is gone, and its CALLER WAITING again (as long as before)",
            TickLinesTest::tryOfBroken);
        all.hold(RUN, "else it is LENT since this TICK.", TickLinesTest::tryOfWhole);

        all.hold(RUN, "As long as someone is WAITING and a LINE IDLE:", TickLinesTest::asLongAs);
        all.hold(RUN, "the one with the least RANK, of equal ones the least number", TickLinesTest::leastRank);
        all.hold(RUN, "the LINE that is IDLE since the latest TICK, of equal ones the least SLOT.",
            TickLinesTest::latestLine);
        all.hold(RUN, "With TRY above 0 it is TRYING for it, TRY TICKS to go", TickLinesTest::tryAboveNone);
        all.hold(RUN, "with 0 it is LENT, but if it is BROKEN it is gone (and the CALLER stays WAITING)",
            TickLinesTest::tryNone);
        all.hold(RUN, "with -1 it is LENT.", TickLinesTest::noTries);
        all.hold(RUN, "(One with all LINES it wants is at WORK.)", TickLinesTest::allItWants);

        all.hold(RUN, "LINES that are IDLE for REST TICKS or more are gone", TickLinesTest::restOrMore);
        all.hold(RUN, "SLOT by SLOT, as long as there are more LINES than WARM", TickLinesTest::moreThanWarm);
        all.hold(RUN, "from the last SLOT on, IDLE ones are gone as long as there are more LINES than SIZE.",
            TickLinesTest::moreThanSize);
        all.hold(RUN, "as long as there are fewer LINES than SIZE, and than WARM", TickLinesTest::fewerThanWarm);
        all.hold(RUN, "or than those LENT or TRYING and CALLERS WAITING together", TickLinesTest::fewerThanWanted);
        all.hold(RUN, "one in the least SLOT without is OPENING, OPEN TICKS to go (with 0 it is IDLE since this TICK).",
            TickLinesTest::leastSlotWithout);
        all.end();
    }

    private static int[] row(int number, int tick, int caller, int slot) {
        return Check.row(number, tick, caller, slot);
    }

    private static void breaks(Check check) {
        LinePool x = Plays.quick(12, -1, 12);
        x.broken(3, 0);
        x.broken(3, 11);
        x.broken(3, 5);
        x.broken(3, 5);
        x.broken(4, 6);
        x.run(2);
        for (int s = 0; s < 12; s++) {
            check.slot(x, s, 2, 0, -1, 0, 1);
        }
        x.run(1);
        for (int s = 0; s < 12; s++) {
            check.slot(x, s, 2, s == 0 || s == 5 || s == 11 ? 1 : 0, -1, 0, 1);
        }
        x.run(9);
        check.due("slot(0, 1) from then on", x.slot(0, 1), 1);
        check.due("slot(6, 1)", x.slot(6, 1), 1);
        check.due("slot(1, 1)", x.slot(1, 1), 0);
        check.count(x, 17, 12);
    }

    private static void breaksWithoutLine(Check check) {
        // the line opens in the tick of the break, behind it
        LinePool x = Plays.quick(4, -1, 1);
        x.broken(1, 0);
        x.broken(2, 1);
        x.broken(2, 11);
        x.run(1);
        check.slot(x, 0, 2, 0, -1, 0, 1);
        x.run(1);
        check.slot(x, 0, 2, 0, -1, 0, 1);
        check.slot(x, 1, 0, 0, -1, 0, 0);
        check.slot(x, 11, 0, 0, -1, 0, 0);
        // a line that comes there later is whole
        x.set(5, 2);
        x.run(5);
        check.slot(x, 1, 2, 0, -1, 0, 3);

        // a line is gone broken, the next one in its slot is whole
        LinePool y = Plays.quick(1, 0, 1);
        y.broken(2, 0);
        y.caller(0, 0, 9, 10, 3);
        y.run(2);
        check.slot(y, 0, 2, 1, -1, 0, 1);
        y.run(1);
        check.slot(y, 0, 2, 0, -1, 0, 3);
    }

    private static void breaksInEachState(Check check) {
        LinePool opening = new LinePool();
        opening.broken(2, 0);
        opening.run(2);
        check.slot(opening, 0, 1, 1, -1, 1, 0);
        opening.run(1);
        check.slot(opening, 0, 2, 1, -1, 0, 3);

        LinePool idle = Plays.quick(1, -1, 1);
        idle.broken(2, 0);
        idle.run(2);
        check.slot(idle, 0, 2, 1, -1, 0, 1);

        LinePool tried = Plays.quick(1, 3, 1);
        tried.broken(3, 0);
        tried.caller(0, 0, 9, 10, 2);
        tried.run(3);
        check.slot(tried, 0, 3, 1, 0, 2, 0);

        LinePool lent = Plays.quick(1, -1, 1);
        lent.broken(4, 0);
        lent.caller(1, 0, 9, 10, 2);
        lent.run(4);
        check.slot(lent, 0, 4, 1, 0, 0, 2);
    }

    /** Slots 0 and 11 and those between, whichever caller tries them. */
    private static void slotBySlot(Check check) {
        LinePool x = Plays.quick(12, 1, 12);
        x.run(1);
        for (int i = 0; i < 12; i++) {
            x.caller(0, i < 6 ? 1 : 0, 0, 1000, 2);
        }
        x.broken(3, 0);
        x.broken(3, 5);
        x.broken(3, 11);
        x.set(0, 9);
        x.run(2);
        int[][] rows = new int[15][];
        for (int s = 0; s < 12; s++) {
            int caller = s < 6 ? s + 6 : s - 6;
            rows[s] = s == 0 || s == 5 || s == 11 ? row(7, 3, -1, s) : row(1, 3, caller, s);
        }
        // and those whose lines are gone give up, one by one
        rows[12] = row(5, 3, 5, -1);
        rows[13] = row(5, 3, 6, -1);
        rows[14] = row(5, 3, 11, -1);
        check.latestEvents(x, rows);
    }

    private static void opening(Check check) {
        for (int open : new int[] {1, 2, 20}) {
            LinePool x = new LinePool();
            x.set(1, open);
            x.run(1);
            for (int left = open; left >= 1; left--) {
                check.slot(x, 0, 1, 0, -1, left, 0);
                check.count(x, 5, 0);
                x.run(1);
            }
            check.slot(x, 0, 2, 0, -1, 0, 1 + open);
            check.count(x, 5, 1);
            x.run(1);
            check.slot(x, 0, 2, 0, -1, 0, 1 + open);
        }
        // a number set later is none of a line that opens already
        LinePool y = new LinePool();
        y.set(1, 5);
        y.run(1);
        y.set(1, 0);
        y.run(4);
        check.slot(y, 0, 1, 0, -1, 1, 0);
        y.run(1);
        check.slot(y, 0, 2, 0, -1, 0, 6);
    }

    private static void trying(Check check) {
        for (int ticks : new int[] {1, 2, 20}) {
            LinePool x = Plays.quick(1, ticks, 1);
            x.caller(0, 0, 0, 1000, 2);
            x.run(2);
            for (int left = ticks; left >= 1; left--) {
                check.slot(x, 0, 3, 0, 0, left, 0);
                check.told(x, 0, 2, 1000, 0, 2);
                x.run(1);
            }
            check.slot(x, 0, 4, 0, 0, 0, 2 + ticks);
        }
        LinePool y = Plays.quick(1, 5, 1);
        y.caller(0, 0, 0, 1000, 2);
        y.run(2);
        y.set(2, -1);
        y.run(4);
        check.slot(y, 0, 3, 0, 0, 1, 0);
        y.run(1);
        check.slot(y, 0, 4, 0, 0, 0, 7);
    }

    /** It comes in TICK 1, tries in TICK 2, and the try ends in TICK 4; it may break in any of these. */
    private static void tryOfBroken(Check check) {
        for (int tick = 2; tick <= 4; tick++) {
            LinePool x = Plays.quick(1, 2, 0);
            x.caller(0, 0, 9, 100, 1);
            x.broken(tick, 0);
            x.run(3);
            check.slot(x, 0, 3, tick == 4 ? 0 : 1, 0, 1, 0);
            x.run(1);
            check.told(x, 0, 1, 100, 0, 1);
            check.slot(x, 0, 2, 0, -1, 0, 4);
            check.count(x, 13, 1);
            x.run(1);
            check.told(x, 0, 2, 100, 0, 1);
            x.run(2);
            check.told(x, 0, 3, 90, 1, 1);
            check.count(x, 11, 2);
            check.count(x, 14, 6);
            check.allEvents(x, row(0, 1, 0, -1), row(6, 1, -1, 0), row(8, 2, 0, 0), row(7, 4, -1, 0),
                row(6, 4, -1, 0), row(8, 5, 0, 0), row(1, 7, 0, 0));
        }
        // it waits as long as before: three ticks in TICK 4
        LinePool up = Plays.quick(1, 2, 0);
        up.caller(0, 0, 2, 100, 1);
        up.broken(3, 0);
        up.run(4);
        check.told(up, 0, 8, 100, 0, 1);
        LinePool patient = Plays.quick(1, 2, 0);
        patient.caller(0, 0, 3, 100, 1);
        patient.broken(3, 0);
        patient.run(4);
        check.told(patient, 0, 1, 100, 0, 1);
        patient.run(1);
        check.told(patient, 0, 8, 100, 0, 1);

        // a nested one keeps its first line
        LinePool nested = Plays.quick(2, 2, 2);
        nested.caller(2, 0, 9, 10, 2);
        nested.broken(5, 1);
        nested.run(5);
        check.told(nested, 0, 2, 10, 1, 4);
        nested.run(1);
        check.told(nested, 0, 1, 10, 1, 4);
        check.slot(nested, 0, 4, 0, 0, 0, 4);
    }

    private static void tryOfWhole(Check check) {
        LinePool x = Plays.quick(1, 2, 0);
        x.caller(0, 4, 9, 25, 3);
        x.run(4);
        check.slot(x, 0, 3, 0, 0, 2, 0);
        check.count(x, 15, 0);
        x.run(2);
        // lent in step 2, it works in step 3 of the same tick
        check.slot(x, 0, 4, 0, 0, 0, 6);
        check.told(x, 0, 3, 15, 1, 3);
        check.count(x, 14, 3);
        check.count(x, 15, 1);
        check.count(x, 16, 3);
        check.due("run(2)", x.run(2), 1);
        check.allEvents(x, row(0, 3, 0, -1), row(6, 3, -1, 0), row(8, 4, 0, 0), row(1, 6, 0, 0), row(2, 8, 0, -1));

        // broken one tick behind the end of the try: it is lent, and fails
        LinePool y = Plays.quick(1, 2, 0);
        y.caller(0, 0, 9, 100, 1);
        y.broken(5, 0);
        y.run(4);
        check.told(y, 0, 3, 90, 1, 1);
        y.run(1);
        check.told(y, 0, 6, 90, 0, 1);
    }

    private static void asLongAs(Check check) {
        int[][] callersAndLines = {{0, 3}, {2, 0}, {2, 3}, {3, 3}, {4, 3}, {12, 12}, {13, 12}, {11, 12}};
        for (int[] row : callersAndLines) {
            int callers = row[0];
            int lines = row[1];
            LinePool x = Plays.quick(Math.max(lines, 1), -1, lines);
            x.run(1);
            Plays.comers(x, callers, 9, 1000, 2);
            x.run(1);
            int lent = Math.min(callers, lines);
            check.count(x, 6, lent);
            check.count(x, 3, lent);
            check.count(x, 2, callers - lent);
            for (int i = 0; i < callers; i++) {
                check.told(x, i, i < lent ? 3 : 1);
            }
        }
        // a line that opens at once opens behind this step
        LinePool y = Plays.quick(1, -1, 0);
        y.caller(0, 0, 9, 10, 1);
        y.run(1);
        check.slot(y, 0, 2, 0, -1, 0, 1);
        check.told(y, 0, 1, 10, 0, 1);
        // an opening line is none
        LinePool z = new LinePool();
        z.caller(0, 0, 9, 10, 2);
        z.run(2);
        check.slot(z, 0, 1, 0, -1, 1, 0);
        check.told(z, 0, 1, 10, 0, 2);
    }

    private static void leastRank(Check check) {
        LinePool x = Plays.quick(5, -1, 5);
        x.run(1);
        int[] ranks = {9, 5, 0, 5, 9, 0, 9};
        for (int rank : ranks) {
            x.caller(0, rank, 9, 1000, 2);
        }
        x.run(1);
        check.latestEvents(x, row(0, 2, 6, -1), row(1, 2, 2, 0), row(1, 2, 5, 1), row(1, 2, 1, 2), row(1, 2, 3, 3),
            row(1, 2, 0, 4));
        check.told(x, 4, 1);
        check.told(x, 6, 1);

        // who waits for longer is not ahead of a lesser rank, nor of a lesser number
        LinePool y = Plays.quick(1, -1, 1);
        y.caller(0, 0, 9, 20, 2);
        y.caller(0, 3, 9, 10, 4);
        y.caller(0, 3, 9, 10, 3);
        y.caller(0, 4, 9, 10, 3);
        y.run(4);
        check.slot(y, 0, 4, 0, 1, 0, 4);
        y.run(1);
        check.slot(y, 0, 4, 0, 2, 0, 5);
    }

    private static void latestLine(Check check) {
        LinePool x = Plays.quick(4, -1, 4);
        x.caller(0, 0, 9, 10, 2);
        x.caller(0, 0, 9, 20, 2);
        x.caller(0, 0, 9, 20, 2);
        x.run(4);
        check.slot(x, 0, 2, 0, -1, 0, 3);
        check.slot(x, 1, 2, 0, -1, 0, 4);
        check.slot(x, 2, 2, 0, -1, 0, 4);
        check.slot(x, 3, 2, 0, -1, 0, 1);
        Plays.comers(x, 4, 9, 1000, 5);
        x.run(1);
        check.latestEvents(x, row(1, 5, 3, 1), row(1, 5, 4, 2), row(1, 5, 5, 0), row(1, 5, 6, 3));
        // a broken one is taken as any other
        LinePool y = Plays.quick(12, -1, 12);
        y.broken(2, 0);
        y.caller(0, 0, 9, 1000, 3);
        y.run(3);
        check.slot(y, 0, 4, 1, 0, 0, 3);
    }

    private static void tryAboveNone(Check check) {
        for (int ticks : new int[] {1, 20}) {
            LinePool x = Plays.quick(2, ticks, 2);
            x.broken(2, 0);
            x.caller(0, 0, 9, 10, 3);
            x.run(3);
            // broken or not: the try will show it
            check.slot(x, 0, 3, 1, 0, ticks, 0);
            check.slot(x, 1, 2, 0, -1, 0, 1);
            check.told(x, 0, 2, 10, 0, 3);
            check.count(x, 2, 0);
            check.count(x, 3, 0);
            check.count(x, 6, 0);
            check.count(x, 11, 1);
            check.count(x, 15, 0);
            check.latestEvents(x, row(0, 3, 0, -1), row(8, 3, 0, 0));
        }
    }

    private static void tryNone(Check check) {
        LinePool whole = Plays.quick(2, 0, 2);
        whole.caller(0, 0, 9, 100, 3);
        whole.run(3);
        check.slot(whole, 0, 4, 0, 0, 0, 3);
        check.told(whole, 0, 3, 100, 1, 3);
        check.latestEvents(whole, row(0, 3, 0, -1), row(1, 3, 0, 0));

        // the next idle line is tried in the same tick
        LinePool x = Plays.quick(2, 0, 2);
        x.broken(2, 0);
        x.caller(0, 0, 9, 100, 3);
        x.run(3);
        check.told(x, 0, 3, 100, 1, 3);
        check.slot(x, 1, 4, 0, 0, 0, 3);
        check.slot(x, 0, 2, 0, -1, 0, 3);
        check.count(x, 11, 2);
        check.allEvents(x, row(6, 1, -1, 0), row(6, 1, -1, 1), row(0, 3, 0, -1), row(7, 3, -1, 0),
            row(1, 3, 0, 1), row(6, 3, -1, 0));

        // all twelve broken, the caller of the least rank stays waiting
        LinePool y = Plays.quick(12, 0, 12);
        for (int s = 0; s < 12; s++) {
            y.broken(2, s);
        }
        y.caller(0, 1, 9, 100, 3);
        y.caller(0, 0, 9, 100, 3);
        y.run(3);
        check.told(y, 0, 1, 100, 0, 3);
        check.told(y, 1, 1, 100, 0, 3);
        check.count(y, 11, 12);
        check.count(y, 13, 12);
        check.count(y, 12, 24);
        check.count(y, 15, 0);
        y.run(1);
        check.slot(y, 0, 4, 0, 1, 0, 4);
        check.slot(y, 1, 4, 0, 0, 0, 4);
    }

    private static void noTries(Check check) {
        LinePool x = Plays.quick(2, -1, 2);
        x.broken(2, 0);
        x.caller(0, 0, 9, 100, 3);
        x.run(3);
        check.told(x, 0, 3, 100, 1, 3);
        check.slot(x, 0, 4, 1, 0, 0, 3);
        check.count(x, 11, 0);
        check.latestEvents(x, row(0, 3, 0, -1), row(1, 3, 0, 0));
        x.run(1);
        check.told(x, 0, 6, 100, 0, 3);
        check.latestEvents(x, row(1, 3, 0, 0), row(3, 4, 0, -1), row(7, 4, -1, 0), row(6, 4, -1, 0));
    }

    private static void allItWants(Check check) {
        for (int kind = 0; kind <= 2; kind++) {
            LinePool x = Plays.quick(3, -1, 3);
            x.caller(kind, 0, 9, 1000, 2);
            x.run(2);
            check.told(x, 0, 3, 1000, 1, 2);
            check.count(x, 3, 1);
            x.run(9);
            check.due("told(0, 2)", x.told(0, 2), 1);
        }
        LinePool y = Plays.quick(3, -1, 3);
        y.caller(2, 0, 9, 10, 2);
        y.run(3);
        check.told(y, 0, 3, 10, 2, 3);
        check.count(y, 5, 1);
    }

    private static void restOrMore(Check check) {
        LinePool x = Plays.quick(2, -1, 2);
        x.set(4, 3);
        x.run(1);
        x.set(5, 0);
        x.run(2);
        check.count(x, 4, 2);
        x.run(1);
        check.count(x, 4, 0);
        check.count(x, 13, 2);
        check.latestEvents(x, row(7, 4, -1, 0), row(7, 4, -1, 1));

        // for more than rest, since rest was greater until now
        LinePool y = Plays.quick(1, -1, 1);
        y.run(1);
        y.set(5, 0);
        y.run(9);
        check.count(y, 4, 1);
        y.set(4, 2);
        y.run(1);
        check.count(y, 4, 0);

        // lent, tried and opening ones do not rest; the time counts anew from the end of the work
        LinePool z = Plays.quick(1, -1, 0);
        z.set(4, 2);
        z.caller(0, 0, 9, 50, 1);
        z.run(6);
        check.slot(z, 0, 4, 0, 0, 0, 2);
        z.run(2);
        check.slot(z, 0, 2, 0, -1, 0, 7);
        z.run(1);
        check.slot(z, 0, 0, 0, -1, 0, 0);
        LinePool tried = Plays.quick(1, 9, 0);
        tried.set(4, 1);
        tried.caller(0, 0, 99, 50, 1);
        tried.run(10);
        check.slot(tried, 0, 3, 0, 0, 1, 0);
        LinePool opening = new LinePool();
        opening.set(1, 20);
        opening.set(4, 1);
        opening.run(1);
        opening.set(5, 0);
        opening.run(19);
        check.slot(opening, 0, 1, 0, -1, 1, 0);
        opening.run(1);
        check.slot(opening, 0, 2, 0, -1, 0, 21);
        opening.run(1);
        check.slot(opening, 0, 0);
    }

    private static void moreThanWarm(Check check) {
        for (int warm : new int[] {0, 5, 11, 12}) {
            LinePool x = Plays.quick(12, -1, 12);
            x.set(4, 3);
            x.run(1);
            x.set(5, warm);
            x.run(3);
            check.count(x, 4, warm);
            check.count(x, 13, 12 - warm);
            for (int s = 0; s < 12; s++) {
                check.slot(x, s, s < 12 - warm ? 0 : 2);
                if (s < 12 - warm) {
                    check.due("slot of the line gone", x.event(12 - warm - 1 - s, 3), s);
                }
            }
            x.run(9);
            check.count(x, 4, warm);
        }
        // one that has not rested is passed over
        LinePool y = Plays.quick(2, -1, 2);
        y.set(4, 5);
        y.caller(0, 0, 9, 10, 4);
        y.run(5);
        y.set(5, 1);
        y.run(1);
        check.slot(y, 0, 2, 0, -1, 0, 5);
        check.slot(y, 1, 0);
        // the lent ones are lines, too: with two of them warm is met
        LinePool z = Plays.quick(3, -1, 3);
        z.set(4, 3);
        Plays.comers(z, 2, 9, 1000, 2);
        z.run(2);
        z.set(5, 2);
        z.run(2);
        check.slot(z, 2, 0);
        check.count(z, 4, 2);
    }

    private static void moreThanSize(Check check) {
        for (int size : new int[] {1, 2, 11, 12}) {
            LinePool x = Plays.quick(12, -1, 12);
            x.run(1);
            x.set(0, size);
            x.run(1);
            check.count(x, 4, size);
            check.count(x, 13, 12 - size);
            for (int s = 0; s < 12; s++) {
                check.slot(x, s, s < size ? 2 : 0);
                if (s >= size) {
                    check.due("slot of the line gone", x.event(s - size, 3), s);
                }
            }
        }
        // lent ones stay, however small the size
        LinePool y = Plays.quick(4, -1, 4);
        y.run(1);
        Plays.comers(y, 3, 9, 1000, 2);
        y.run(1);
        y.set(0, 1);
        y.run(1);
        check.count(y, 4, 3);
        check.count(y, 6, 3);
        check.latestEvents(y, row(1, 2, 2, 2), row(7, 3, -1, 3));
        // and so do tried and opening ones
        LinePool tried = Plays.quick(2, 9, 2);
        Plays.comers(tried, 2, 9, 1000, 2);
        tried.run(2);
        tried.set(0, 1);
        tried.run(1);
        check.count(tried, 4, 2);
        LinePool opening = new LinePool();
        opening.set(5, 4);
        opening.run(1);
        opening.set(0, 1);
        opening.run(1);
        check.count(opening, 4, 4);
        opening.run(1);
        check.count(opening, 4, 1);
        check.slot(opening, 0, 2, 0, -1, 0, 3);
        // idle ones in the midst of lent ones, down to the very first slot
        LinePool z = Plays.quick(12, -1, 12);
        for (int i = 0; i < 12; i++) {
            z.caller(0, 0, 9, i == 0 || i == 6 ? 10 : 1000, 2);
        }
        z.run(2);
        z.set(0, 11);
        z.run(1);
        check.latestEvents(z, row(2, 3, 0, -1), row(2, 3, 6, -1), row(7, 3, -1, 6));
        z.set(0, 10);
        z.run(1);
        check.latestEvents(z, row(7, 3, -1, 6), row(7, 4, -1, 0));
        z.set(0, 9);
        z.run(1);
        check.count(z, 4, 10);
    }

    private static void fewerThanWarm(Check check) {
        int[][] sizeWarmLines = {
            {4, 0, 0}, {4, 1, 1}, {4, 3, 3}, {4, 4, 4}, {4, 5, 4}, {1, 12, 1}, {12, 12, 12}, {12, 11, 11},
        };
        for (int[] row : sizeWarmLines) {
            LinePool x = Plays.quick(row[0], -1, row[1]);
            x.run(1);
            check.count(x, 4, row[2]);
            check.count(x, 12, row[2]);
            x.run(2);
            check.count(x, 4, row[2]);
            check.count(x, 12, row[2]);
        }
        // those that open are lines already
        LinePool y = new LinePool();
        y.set(1, 20);
        y.set(5, 3);
        y.run(10);
        check.count(y, 4, 3);
        y.set(5, 4);
        y.run(1);
        check.count(y, 4, 4);
        check.slot(y, 2, 1, 0, -1, 10, 0);
        check.slot(y, 3, 1, 0, -1, 20, 0);
    }

    private static void fewerThanWanted(Check check) {
        int[][] sizeCallersLines = {{4, 0, 0}, {4, 1, 1}, {4, 3, 3}, {4, 4, 4}, {4, 5, 4}, {12, 12, 12}, {12, 13, 12}};
        for (int[] row : sizeCallersLines) {
            LinePool x = Plays.quick(row[0], -1, 0);
            Plays.comers(x, row[1], 99, 1000, 1);
            x.run(1);
            check.count(x, 4, row[2]);
            x.run(3);
            check.count(x, 4, row[2]);
            check.count(x, 12, row[2]);
        }
        // one lent and one who waits want two; one lent alone wants no more than it has
        LinePool y = Plays.quick(12, -1, 1);
        y.caller(0, 0, 99, 1000, 2);
        y.run(3);
        check.count(y, 4, 1);
        y.caller(0, 0, 99, 1000, 4);
        y.run(1);
        check.count(y, 4, 2);
        // one tried and one who waits want two, too
        LinePool t = Plays.quick(12, 5, 0);
        t.caller(0, 0, 99, 1000, 1);
        t.caller(0, 0, 99, 1000, 3);
        t.run(2);
        check.count(t, 4, 1);
        t.run(1);
        check.slot(t, 0, 3, 0, 0, 4, 0);
        check.count(t, 4, 2);
        // those that open already are lines, but none that is lent or tried
        LinePool o = new LinePool();
        o.set(0, 5);
        o.set(1, 3);
        o.set(5, 0);
        Plays.comers(o, 2, 99, 100, 1);
        Plays.comers(o, 7, 99, 100, 3);
        o.run(2);
        check.count(o, 4, 2);
        o.run(1);
        check.count(o, 4, 5);
        check.count(o, 12, 5);
        // one who holds a line and one who waits with one: two lent and one waiting want three
        LinePool n = Plays.quick(12, -1, 0);
        n.caller(1, 0, 99, 10, 1);
        n.caller(2, 0, 99, 10, 1);
        n.run(3);
        check.told(n, 1, 1, 10, 1, 3);
        check.count(n, 4, 3);
    }

    private static void leastSlotWithout(Check check) {
        LinePool x = Plays.quick(12, -1, 12);
        x.broken(3, 2);
        x.broken(3, 7);
        Plays.comers(x, 12, 9, 1000, 2);
        x.run(2);
        x.set(1, 20);
        x.run(1);
        check.latestEvents(x, row(3, 3, 2, -1), row(7, 3, -1, 2), row(3, 3, 7, -1), row(7, 3, -1, 7),
            row(6, 3, -1, 2), row(6, 3, -1, 7));
        check.slot(x, 2, 1, 0, -1, 20, 0);
        check.slot(x, 7, 1, 0, -1, 20, 0);

        int[][] openStateLeftSince = {{0, 2, 0, 1}, {1, 1, 1, 0}, {20, 1, 20, 0}};
        for (int[] row : openStateLeftSince) {
            LinePool y = Plays.quick(12, -1, 2);
            y.set(1, row[0]);
            y.run(1);
            check.slot(y, 0, row[1], 0, -1, row[2], row[3]);
            check.slot(y, 1, row[1], 0, -1, row[2], row[3]);
            check.slot(y, 2, 0, 0, -1, 0, 0);
            check.allEvents(y, row(6, 1, -1, 0), row(6, 1, -1, 1));
        }
    }
}
