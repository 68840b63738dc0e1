import java.util.function.Consumer;

/**
 * All that can be seen of a pool behind some calls, so that two pools can be held against each other.
 * Each part is read from an object of its own, on which the calls are made anew, since an object is used
 * for at most 512 calls; so the calls themselves may be 130 at most.
 */
final class Seen {
    private final Consumer<LinePool> calls;
    private final StringBuilder all = new StringBuilder();

    private Seen(Consumer<LinePool> calls) {
        this.calls = calls;
    }

    /** A row for each part. */
    static String[] behind(Consumer<LinePool> calls) {
        Seen seen = new Seen(calls);
        seen.countsAndSlots();
        seen.callers();
        seen.events(0, 90);
        seen.events(90, 151);
        seen.numbersAndRoom();
        seen.speeds();
        seen.crowd();
        seen.nextTicks();
        seen.laterTicks();
        return seen.all.toString().trim().split("\n");
    }

    private LinePool pool(String part) {
        LinePool x = new LinePool();
        calls.accept(x);
        all.append("\n").append(part).append(":");
        return x;
    }

    private void add(long answer) {
        all.append(' ').append(answer);
    }

    private void counts(LinePool x) {
        for (int what = 0; what <= 17; what++) {
            add(x.count(what));
        }
    }

    private void countsAndSlots() {
        LinePool x = pool("counts and slots");
        counts(x);
        for (int s = 0; s < 12; s++) {
            for (int what = 0; what < 5; what++) {
                add(x.slot(s, what));
            }
        }
    }

    private void callers() {
        LinePool x = pool("callers");
        long many = x.count(1);
        for (int c = 0; c < many; c++) {
            for (int what = 0; what < 6; what++) {
                add(x.told(c, what));
            }
        }
    }

    private void events(int from, int to) {
        LinePool x = pool("events");
        for (int i = from; i < to; i++) {
            for (int what = 0; what < 4; what++) {
                add(x.event(i, what));
            }
        }
    }

    /** The numbers, and how many more callers and breaks are taken. */
    private void numbersAndRoom() {
        LinePool x = pool("numbers and room");
        for (int what = 0; what < 6; what++) {
            add(x.set(what, 1));
        }
        for (int i = 0; i <= 60; i++) {
            add(x.caller(0, 0, 0, 1, 5000));
            add(x.broken(5000, 0) ? 1 : 0);
        }
    }

    private void speeds() {
        LinePool x = pool("speeds");
        for (int speed : Plays.speedsAtWork(x)) {
            add(speed);
        }
    }

    private void crowd() {
        LinePool x = pool("crowd");
        for (int c = 1; c <= 24; c++) {
            add(x.states(c, 0));
            add(x.states(c, 1));
        }
        add(x.sure());
        add(x.scatter());
    }

    private void nextTicks() {
        LinePool x = pool("the next ticks");
        for (int i = 0; i < 16; i++) {
            add(x.run(1));
            counts(x);
        }
    }

    /** With a line in each slot, so that each break that is still to come shows. */
    private void laterTicks() {
        LinePool x = pool("later ticks");
        x.set(0, 12);
        x.set(1, 0);
        x.set(5, 12);
        for (int i = 0; i < 11; i++) {
            add(x.run(500));
            for (int s = 0; s < 12; s++) {
                add(x.slot(s, 1));
            }
            add(x.count(17));
        }
    }
}
