import java.util.NoSuchElementException;

/**
 * A pool of lines to a store that callers share, run by ticks with a log; beside it the exact mean
 * wait for each size of the pool, and the states of a crowd that can stop one another.
 */
public final class LinePool {
    public static final int NONE = -1;

    private static final int REFUSED = -2;
    private static final int MOST_TICKS = 500;
    private static final int MOST_COUNTED = 8;
    private static final int MOST_RATE = 9;

    private final Settings settings;
    private final Pool pool;
    private final MeanWait wait;
    private final Crowd people;

    public LinePool() {
        settings = new Settings();
        pool = new Pool(settings);
        wait = new MeanWait(settings);
        people = new Crowd();
    }

    public int set(int what, int v) {
        return settings.change(what, v);
    }

    public boolean speed(int k, int v) {
        return settings.changeSpeed(k, v);
    }

    public int caller(int kind, int rank, int patience, int work, int tick) {
        if (!Caller.allows(kind, rank, patience, work) || !pool.isAhead(tick)) {
            return NONE;
        }
        return pool.addCaller(kind, rank, patience, work, tick);
    }

    public boolean broken(int tick, int slot) {
        return pool.isAhead(tick) && pool.addBreak(tick, slot);
    }

    public int run(int n) {
        if (!within(n, 0, MOST_TICKS)) {
            return NONE;
        }
        return pool.passTicks(n);
    }

    public void clear() {
        pool.reset();
        people.dismiss();
    }

    public long count(int what) {
        return pool.figure(what);
    }

    public int slot(int s, int what) {
        return pool.lineFigure(s, what);
    }

    public int told(int c, int what) throws NoSuchElementException {
        if (!pool.hasCaller(c) || !within(what, 0, Pool.CALLER_FIGURES - 1)) {
            throw new NoSuchElementException();
        }
        return pool.callerFigure(c, what);
    }

    public int event(int i, int what) {
        return pool.eventFigure(i, what);
    }

    // ---- counts

    public long mean(int n, int r, int c, int what) {
        if (!countable(n, r, c) || !within(what, 0, 1)) {
            return NONE;
        }
        wait.find(n, r, c);
        return what == 0 ? wait.above : wait.below;
    }

    public int best(int n, int r, int most) {
        if (!countable(n, r, most)) {
            return NONE;
        }
        return wait.bestSize(n, r, most);
    }

    public int crowd(int takes) {
        return people.join(takes);
    }

    public int scatter() {
        return people.dismiss();
    }

    public int states(int c, int what) {
        return people.figure(c, what);
    }

    public int sure() {
        return people.sureLines();
    }

    private static boolean countable(int n, int r, int c) {
        return within(n, 1, MOST_COUNTED) && within(r, 1, MOST_RATE) && within(c, 1, MOST_COUNTED);
    }

    private static boolean within(int v, int least, int most) {
        return v >= least && v <= most;
    }

    /** The NUMBERS and SPEEDS: what clear leaves as it is. */
    private static final class Settings {
        static final int SIZE = 0;
        static final int OPEN = 1;
        static final int TRY = 2;
        static final int LEAK = 3;
        static final int REST = 4;
        static final int WARM = 5;

        private static final int[] FIRST = {4, 2, 1, 100, 50, 1};
        private static final int[] LEAST = {1, 0, -1, 1, 1, 0};
        private static final int[] MOST = {12, 20, 20, 1000, 1000, 12};
        private static final int SPEEDS = 12;
        private static final int FIRST_SPEED = 10;
        private static final int MOST_SPEED = 100;

        private final int[] numbers;
        private final int[] speeds;

        Settings() {
            numbers = FIRST.clone();
            speeds = new int[SPEEDS];
            for (int i = 0; i < SPEEDS; i++) {
                speeds[i] = FIRST_SPEED;
            }
        }

        int change(int what, int v) {
            if (!within(what, SIZE, WARM) || !within(v, LEAST[what], MOST[what])) {
                return REFUSED;
            }
            int old = numbers[what];
            numbers[what] = v;
            return old;
        }

        boolean changeSpeed(int k, int v) {
            if (!within(k, 1, SPEEDS) || !within(v, 1, MOST_SPEED)) {
                return false;
            }
            speeds[k - 1] = v;
            return true;
        }

        int number(int what) {
            return numbers[what];
        }

        int speedOf(int k) {
            return speeds[Math.max(1, Math.min(k, SPEEDS)) - 1];
        }
    }

    /** One who shares the lines. */
    private static final class Caller {
        static final int PLAIN = 0;
        static final int LEAKING = 1;
        static final int NESTED = 2;

        static final int NOT_YET = 0;
        static final int WAITING = 1;
        static final int TRYING = 2;
        static final int WORKING = 3;
        static final int HOLDING = 4;
        static final int DONE = 5;
        static final int FAILED = 6;
        static final int LEAKED = 7;
        static final int UP = 8;

        private static final int MOST_RANK = 9;
        private static final int MOST_PATIENCE = 1000;
        private static final int MOST_WORK = 1000;

        final int number;
        int kind;
        int rank;
        int patience;
        int work;
        int comes;
        int state;
        int left;
        int since;
        /** Whether it is past its first work, so that it wants, or has, a second line. */
        boolean second;

        Caller(int number) {
            this.number = number;
        }

        static boolean allows(int kind, int rank, int patience, int work) {
            return within(kind, PLAIN, NESTED) && within(rank, 0, MOST_RANK)
                && within(patience, 0, MOST_PATIENCE) && within(work, 1, MOST_WORK);
        }

        void tell(int ofKind, int ofRank, int ofPatience, int ofWork, int tick) {
            kind = ofKind;
            rank = ofRank;
            patience = ofPatience;
            work = ofWork;
            comes = tick;
            state = NOT_YET;
            left = ofWork;
            since = 0;
            second = false;
        }

        void waitFrom(int tick) {
            state = WAITING;
            since = tick;
        }

        void wantSecond(int tick) {
            second = true;
            left = work;
            waitFrom(tick);
        }
    }

    /** What a slot holds: no line, or one in some state. */
    private static final class Line {
        static final int ABSENT = 0;
        static final int OPENING = 1;
        static final int IDLE = 2;
        static final int TRYING = 3;
        static final int LENT = 4;

        final int slot;
        int state;
        boolean broken;
        Caller holder;
        int toGo;
        int since;

        Line(int slot) {
            this.slot = slot;
        }

        private void become(int newState, Caller newHolder, int newToGo, int newSince) {
            state = newState;
            holder = newHolder;
            toGo = newToGo;
            since = newSince;
        }

        void vanish() {
            become(ABSENT, null, 0, 0);
            broken = false;
        }

        void openFor(int ticks) {
            become(OPENING, null, ticks, 0);
        }

        void idleFrom(int tick) {
            become(IDLE, null, 0, tick);
        }

        void tryFor(Caller c, int ticks) {
            become(TRYING, c, ticks, 0);
        }

        void lendTo(Caller c, int tick) {
            become(LENT, c, 0, tick);
        }

        boolean isLentTo(Caller c) {
            return state == LENT && holder == c;
        }

        int figure(int what) {
            switch (what) {
                case 0: return state;
                case 1: return broken ? 1 : 0;
                case 2: return holder == null ? NONE : holder.number;
                case 3: return toGo;
                case 4: return since;
                default: return NONE;
            }
        }
    }

    /** The BREAKS that were told. */
    private static final class Breaks {
        private static final int MOST = 60;

        private final int[] ticks;
        private final int[] slots;
        private int many;

        Breaks() {
            ticks = new int[MOST];
            slots = new int[MOST];
        }

        boolean add(int tick, int slot) {
            if (many >= MOST) {
                return false;
            }
            ticks[many] = tick;
            slots[many] = slot;
            many++;
            return true;
        }

        void forget() {
            many = 0;
        }

        boolean strike(int tick, int slot) {
            for (int i = 0; i < many; i++) {
                if (ticks[i] == tick && slots[i] == slot) {
                    return true;
                }
            }
            return false;
        }
    }

    /** The EVENTS: the latest ones whole, and how many of each number in all. */
    private static final class Log {
        static final int CAME = 0;
        static final int LENT = 1;
        static final int DONE = 2;
        static final int FAILED = 3;
        static final int LEAKED = 4;
        static final int UP = 5;
        static final int OPENING = 6;
        static final int GONE = 7;
        static final int TRY_BEGUN = 8;

        private static final int KINDS = 9;
        private static final int KEPT = 150;
        private static final int PARTS = 4;

        private final int[] rows;
        private final int[] totals;
        private int all;

        Log() {
            rows = new int[KEPT * PARTS];
            totals = new int[KINDS];
        }

        void add(int kind, int tick, int caller, int slot) {
            int at = Math.floorMod(all, KEPT) * PARTS;
            rows[at] = kind;
            rows[at + 1] = tick;
            rows[at + 2] = caller;
            rows[at + 3] = slot;
            totals[kind]++;
            all++;
        }

        void forget() {
            all = 0;
            for (int i = 0; i < KINDS; i++) {
                totals[i] = 0;
            }
        }

        int total(int kind) {
            return totals[kind];
        }

        int figure(int i, int what) {
            if (!within(i, 0, Math.min(all, KEPT) - 1) || !within(what, 0, PARTS - 1)) {
                return NONE;
            }
            return rows[Math.floorMod(all - 1 - i, KEPT) * PARTS + what];
        }
    }

    /** The lines and callers, and how a TICK changes them. */
    private static final class Pool {
        static final int CALLER_FIGURES = 6;

        private static final int SLOTS = 12;
        private static final int MOST_CALLERS = 60;
        private static final int LAST_TICK = 5000;

        private final Settings settings;
        private final Line[] lines;
        private final Caller[] callers;
        private final Breaks breaks;
        private final Log log;
        private int many;
        private int now;
        private int tries;
        private long waitSum;
        private int waits;
        private int longestWait;

        Pool(Settings settings) {
            this.settings = settings;
            lines = new Line[SLOTS];
            for (int i = 0; i < SLOTS; i++) {
                lines[i] = new Line(i);
            }
            callers = new Caller[MOST_CALLERS];
            for (int i = 0; i < MOST_CALLERS; i++) {
                callers[i] = new Caller(i);
            }
            breaks = new Breaks();
            log = new Log();
        }

        void reset() {
            for (int i = 0; i < SLOTS; i++) {
                lines[i].vanish();
            }
            breaks.forget();
            log.forget();
            many = 0;
            now = 0;
            tries = 0;
            waitSum = 0;
            waits = 0;
            longestWait = 0;
        }

        boolean isAhead(int tick) {
            return tick > now && tick <= LAST_TICK;
        }

        int addCaller(int kind, int rank, int patience, int work, int tick) {
            if (many >= MOST_CALLERS) {
                return NONE;
            }
            callers[many].tell(kind, rank, patience, work, tick);
            many++;
            return many - 1;
        }

        boolean addBreak(int tick, int slot) {
            return within(slot, 0, SLOTS - 1) && breaks.add(tick, slot);
        }

        int passTicks(int n) {
            int before = log.total(Log.DONE);
            for (int i = 0; i < n; i++) {
                now++;
                breakLines();
                advanceLines();
                failBroken();
                doWork();
                finishWork();
                endLeaks();
                letCome();
                giveUp();
                handOut();
                closeRested();
                closeSurplus();
                openWanted();
            }
            return log.total(Log.DONE) - before;
        }

        private void breakLines() {
            for (int i = 0; i < SLOTS; i++) {
                Line line = lines[i];
                if (line.state != Line.ABSENT && breaks.strike(now, i)) {
                    line.broken = true;
                }
            }
        }

        private void advanceLines() {
            for (int i = 0; i < SLOTS; i++) {
                Line line = lines[i];
                if (line.state == Line.OPENING || line.state == Line.TRYING) {
                    line.toGo--;
                    if (line.toGo <= 0) {
                        endStep(line);
                    }
                }
            }
        }

        private void endStep(Line line) {
            Caller c = line.holder;
            if (c == null) {
                line.idleFrom(now);
            } else if (line.broken) {
                drop(line);
                // since is left alone: its patience runs on as if it had never stopped waiting
                c.state = Caller.WAITING;
            } else {
                lend(line, c);
            }
        }

        private void failBroken() {
            for (int i = 0; i < many; i++) {
                Caller c = callers[i];
                if (c.state == Caller.WORKING && hasBroken(c)) {
                    leave(c, Caller.FAILED, Log.FAILED);
                    dropBroken(c);
                    giveBack(c);
                }
            }
        }

        private boolean hasBroken(Caller c) {
            for (int i = 0; i < SLOTS; i++) {
                if (lines[i].holder == c && lines[i].broken) {
                    return true;
                }
            }
            return false;
        }

        private void dropBroken(Caller c) {
            for (int i = 0; i < SLOTS; i++) {
                if (lines[i].holder == c && lines[i].broken) {
                    drop(lines[i]);
                }
            }
        }

        private void doWork() {
            int speed = settings.speedOf(callersIn(Caller.WORKING));
            for (int i = 0; i < many; i++) {
                Caller c = callers[i];
                if (c.state == Caller.WORKING) {
                    c.left = Math.max(0, c.left - speed);
                }
            }
        }

        private void finishWork() {
            for (int i = 0; i < many; i++) {
                Caller c = callers[i];
                if (c.state == Caller.WORKING && c.left == 0) {
                    finish(c);
                }
            }
        }

        private void finish(Caller c) {
            if (c.kind == Caller.LEAKING) {
                c.state = Caller.HOLDING;
            } else if (c.kind == Caller.NESTED && !c.second) {
                c.wantSecond(now);
            } else {
                leave(c, Caller.DONE, Log.DONE);
                giveBack(c);
            }
        }

        private void endLeaks() {
            for (int i = 0; i < many; i++) {
                Caller c = callers[i];
                if (holdsTooLong(c)) {
                    leave(c, Caller.LEAKED, Log.LEAKED);
                    giveBack(c);
                }
            }
        }

        private boolean holdsTooLong(Caller c) {
            int leak = settings.number(Settings.LEAK);
            for (int i = 0; i < SLOTS; i++) {
                if (lines[i].isLentTo(c) && now - lines[i].since >= leak) {
                    return true;
                }
            }
            return false;
        }

        private void letCome() {
            for (int i = 0; i < many; i++) {
                Caller c = callers[i];
                if (c.state == Caller.NOT_YET && c.comes == now) {
                    c.waitFrom(now);
                    log.add(Log.CAME, now, c.number, NONE);
                }
            }
        }

        private void giveUp() {
            for (int i = 0; i < many; i++) {
                Caller c = callers[i];
                if (c.state == Caller.WAITING && now - c.since > c.patience) {
                    leave(c, Caller.UP, Log.UP);
                    giveBack(c);
                }
            }
        }

        private void handOut() {
            // each turn takes one line from the idle ones, so that there are at most as many as slots
            for (int turn = 0; turn < SLOTS; turn++) {
                Caller c = firstWaiting();
                Line line = freshestIdle();
                if (c == null || line == null) {
                    return;
                }
                handTo(c, line);
            }
        }

        private Caller firstWaiting() {
            Caller first = null;
            for (int i = 0; i < many; i++) {
                Caller c = callers[i];
                if (c.state == Caller.WAITING && (first == null || c.rank < first.rank)) {
                    first = c;
                }
            }
            return first;
        }

        private Line freshestIdle() {
            Line freshest = null;
            for (int i = 0; i < SLOTS; i++) {
                Line line = lines[i];
                if (line.state == Line.IDLE && (freshest == null || line.since > freshest.since)) {
                    freshest = line;
                }
            }
            return freshest;
        }

        private void handTo(Caller c, Line line) {
            int ticks = settings.number(Settings.TRY);
            if (ticks >= 0) {
                tries++;
            }
            if (ticks > 0) {
                line.tryFor(c, ticks);
                c.state = Caller.TRYING;
                log.add(Log.TRY_BEGUN, now, c.number, line.slot);
            } else if (ticks == 0 && line.broken) {
                drop(line);
            } else {
                lend(line, c);
            }
        }

        private void closeRested() {
            int over = linesThere() - settings.number(Settings.WARM);
            for (int i = 0; i < SLOTS && over > 0; i++) {
                Line line = lines[i];
                if (line.state == Line.IDLE && now - line.since >= settings.number(Settings.REST)) {
                    drop(line);
                    over--;
                }
            }
        }

        private void closeSurplus() {
            int over = linesThere() - settings.number(Settings.SIZE);
            for (int i = SLOTS - 1; i >= 0 && over > 0; i--) {
                if (lines[i].state == Line.IDLE) {
                    drop(lines[i]);
                    over--;
                }
            }
        }

        private void openWanted() {
            int wanted = linesIn(Line.LENT) + linesIn(Line.TRYING) + callersIn(Caller.WAITING);
            int aim = Math.min(settings.number(Settings.SIZE), Math.max(settings.number(Settings.WARM), wanted));
            int missing = aim - linesThere();
            for (int i = 0; i < SLOTS && missing > 0; i++) {
                if (lines[i].state == Line.ABSENT) {
                    openLine(lines[i]);
                    missing--;
                }
            }
        }

        private void openLine(Line line) {
            int ticks = settings.number(Settings.OPEN);
            log.add(Log.OPENING, now, NONE, line.slot);
            if (ticks > 0) {
                line.openFor(ticks);
            } else {
                line.idleFrom(now);
            }
        }

        private void lend(Line line, Caller c) {
            line.lendTo(c, now);
            c.state = Caller.WORKING;
            if (!c.second) {
                noteWait(now - c.comes);
            }
            log.add(Log.LENT, now, c.number, line.slot);
        }

        private void noteWait(int ticks) {
            waitSum += ticks;
            waits++;
            longestWait = Math.max(longestWait, ticks);
        }

        private void drop(Line line) {
            line.vanish();
            log.add(Log.GONE, now, NONE, line.slot);
        }

        private void leave(Caller c, int state, int event) {
            c.state = state;
            log.add(event, now, c.number, NONE);
        }

        private void giveBack(Caller c) {
            for (int i = 0; i < SLOTS; i++) {
                if (lines[i].holder == c) {
                    lines[i].idleFrom(now);
                }
            }
        }

        private int callersIn(int state) {
            int found = 0;
            for (int i = 0; i < many; i++) {
                if (callers[i].state == state) {
                    found++;
                }
            }
            return found;
        }

        private int linesIn(int state) {
            int found = 0;
            for (int i = 0; i < SLOTS; i++) {
                if (lines[i].state == state) {
                    found++;
                }
            }
            return found;
        }

        private int linesThere() {
            return SLOTS - linesIn(Line.ABSENT);
        }

        private int linesLentTo(Caller c) {
            int found = 0;
            for (int i = 0; i < SLOTS; i++) {
                if (lines[i].isLentTo(c)) {
                    found++;
                }
            }
            return found;
        }

        long figure(int what) {
            switch (what) {
                case 0: return now;
                case 1: return many;
                case 2: return callersIn(Caller.WAITING);
                case 3: return callersIn(Caller.WORKING);
                case 4: return linesThere();
                case 5: return linesIn(Line.IDLE);
                case 6: return linesIn(Line.LENT);
                case 7: return log.total(Log.DONE);
                case 8: return log.total(Log.FAILED);
                case 9: return log.total(Log.LEAKED);
                case 10: return log.total(Log.UP);
                case 11: return tries;
                case 12: return log.total(Log.OPENING);
                case 13: return log.total(Log.GONE);
                case 14: return waitSum;
                case 15: return waits;
                case 16: return longestWait;
                case 17: return log.all;
                default: return NONE;
            }
        }

        int lineFigure(int s, int what) {
            return within(s, 0, SLOTS - 1) ? lines[s].figure(what) : NONE;
        }

        int eventFigure(int i, int what) {
            return log.figure(i, what);
        }

        boolean hasCaller(int c) {
            return within(c, 0, many - 1);
        }

        int callerFigure(int number, int what) {
            Caller c = callers[number];
            switch (what) {
                case 0: return c.state;
                case 1: return c.left;
                case 2: return linesLentTo(c);
                case 3: return c.since;
                case 4: return c.kind;
                case 5: return c.rank;
                default: return NONE;
            }
        }
    }

    /** The MEAN WAIT as a fraction in lowest terms. */
    private static final class MeanWait {
        private static final int MOST_COUNTED_SPEED = 9;
        /** Euclid's way ends for two longs in fewer than a hundred steps. */
        private static final int EUCLID_STEPS = 200;

        private final Settings settings;
        long above;
        long below;

        MeanWait(Settings settings) {
            this.settings = settings;
        }

        /** With at most 8 callers, rates of at most 9 and speeds of at most 9 all sums stay under 2^57. */
        void find(int many, int rate, int size) {
            above = 0;
            below = 0;
            for (int n = 0; n <= many; n++) {
                long share = share(many, rate, size, n);
                above += share * Math.max(0, n - size);
                below += share * endRate(size, n);
            }
            long common = commonDivisor(above, below);
            if (common > 1) {
                above /= common;
                below /= common;
            }
        }

        int bestSize(int many, int rate, int most) {
            find(many, rate, 1);
            int leastSize = 1;
            long leastAbove = above;
            long leastBelow = below;
            for (int size = 2; size <= most; size++) {
                find(many, rate, size);
                if (isLess(above, below, leastAbove, leastBelow)) {
                    leastSize = size;
                    leastAbove = above;
                    leastBelow = below;
                }
            }
            return leastSize;
        }

        private long share(int many, int rate, int size, int n) {
            long product = 1;
            for (int i = 0; i < n; i++) {
                product *= (many - i) * rate;
            }
            for (int i = n + 1; i <= many; i++) {
                product *= endRate(size, i);
            }
            return product;
        }

        private int endRate(int size, int inPool) {
            int k = Math.min(size, inPool);
            return k * Math.min(settings.speedOf(k), MOST_COUNTED_SPEED);
        }

        private static long commonDivisor(long a, long b) {
            for (int i = 0; i < EUCLID_STEPS && b != 0; i++) {
                long rest = a % b;
                a = b;
                b = rest;
            }
            return a;
        }

        /**
         * Whether a / b is less than c / d, where x / 0 counts as endless. It compares whole parts and
         * then the turned over rests, since the products a * d and c * b may not fit a long.
         */
        private static boolean isLess(long a, long b, long c, long d) {
            for (int i = 0; i < EUCLID_STEPS; i++) {
                if (b == 0 || d == 0) {
                    return b != 0;
                }
                long wholeA = a / b;
                long wholeC = c / d;
                if (wholeA != wholeC) {
                    return wholeA < wholeC;
                }
                long restA = a - wholeA * b;
                long restC = c - wholeC * d;
                a = d;
                c = b;
                b = restC;
                d = restA;
            }
            return false;
        }
    }

    /** Those who take lines one by one, and the walk of their states. */
    private static final class Crowd {
        private static final int MOST = 6;
        private static final int MOST_TAKES = 4;
        private static final int MOST_LINES = 24;
        /** 5 to the 6th: each of six has 0 to 3 lines or is gone. */
        private static final int MOST_STATES = 15625;
        private static final int BITS = 64;

        private final int[] takes;
        private final int[] has;
        /** A bit for each state, since a room full of objects has no place for a row of flags in each. */
        private final long[] reached;
        private int many;
        private int walkedLines;
        private int found;
        private int stuck;

        Crowd() {
            takes = new int[MOST];
            has = new int[MOST];
            reached = new long[MOST_STATES / BITS + 1];
        }

        int join(int lines) {
            if (!within(lines, 1, MOST_TAKES) || many >= MOST) {
                return NONE;
            }
            takes[many] = lines;
            many++;
            walkedLines = 0;
            return many;
        }

        int dismiss() {
            int were = many;
            many = 0;
            walkedLines = 0;
            return were;
        }

        int figure(int lines, int what) {
            if (!within(lines, 1, MOST_LINES) || !within(what, 0, 1)) {
                return NONE;
            }
            if (walkedLines != lines) {
                walk(lines);
                walkedLines = lines;
            }
            return what == 0 ? found : stuck;
        }

        /**
         * A STATE is STUCK when all lines are taken by some who each lack at least one; so with one line
         * more than all can have without having all there is none, and with fewer lines there is one.
         */
        int sureLines() {
            int lines = 1;
            for (int i = 0; i < many; i++) {
                lines += takes[i] - 1;
            }
            return lines;
        }

        /**
         * A state's number is made of what each has, who has all being gone; every move makes it
         * greater, so that one way through the numbers comes to each state behind all that lead to it.
         */
        private void walk(int lines) {
            found = 0;
            stuck = 0;
            goToFirstRow();
            markReached(0);
            int end = stateNumbers();
            for (int state = 0; state < end; state++) {
                if (isReached(state)) {
                    found++;
                    visit(state, lines);
                }
                nextRow();
            }
        }

        private void goToFirstRow() {
            for (int i = 0; i < reached.length; i++) {
                reached[i] = 0;
            }
            for (int i = 0; i < MOST; i++) {
                has[i] = 0;
            }
        }

        private int stateNumbers() {
            int product = 1;
            for (int i = 0; i < many; i++) {
                product *= takes[i] + 1;
            }
            return product;
        }

        private void visit(int state, int lines) {
            int taken = 0;
            for (int i = 0; i < many; i++) {
                if (has[i] < takes[i]) {
                    taken += has[i];
                }
            }
            if (taken < lines) {
                markMoves(state);
            } else {
                // whoever has one of these lines is not gone, so that this is never the end of all
                stuck++;
            }
        }

        private void markMoves(int state) {
            int step = 1;
            for (int i = 0; i < many; i++) {
                if (has[i] < takes[i]) {
                    markReached(state + step);
                }
                step *= takes[i] + 1;
            }
        }

        private void nextRow() {
            for (int i = 0; i < many; i++) {
                if (has[i] < takes[i]) {
                    has[i]++;
                    return;
                }
                has[i] = 0;
            }
        }

        private void markReached(int state) {
            if (within(state, 0, MOST_STATES - 1)) {
                reached[state / BITS] |= 1L << (state % BITS);
            }
        }

        private boolean isReached(int state) {
            return within(state, 0, MOST_STATES - 1)
                && (reached[state / BITS] & (1L << (state % BITS))) != 0;
        }
    }
}
