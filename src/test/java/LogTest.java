/** Promise 11 (event): which are kept, and wrong numbers. */
public final class LogTest {
    private LogTest() {
    }

    public static void main(String[] args) {
        Check check = new Check("LogTest");
        LinePool x = new LinePool();
        x.set(0, 1);
        x.set(1, 0);
        x.set(4, 1);
        x.set(5, 0);
        check.due("event of none", x.event(0, 0), -1);

        // 60 who each come, find a line opened, and give up ahead of it: 4 events each, 2 ticks each
        for (int i = 0; i < 60; i++) {
            x.caller(0, 0, 0, 1, 2 * i + 1);
        }
        for (int i = 0; i < 37; i++) {
            x.run(2);
        }
        check.due("events", x.count(17), 148);
        check.due("the first is kept", x.event(147, 0), 0);
        check.due("none ahead of it", x.event(148, 0), -1);
        x.run(2);
        check.due("events", x.count(17), 152);
        check.latestEvents(x, Check.row(0, 75, 37, -1), Check.row(6, 75, -1, 0), Check.row(5, 76, 37, -1),
            Check.row(7, 76, -1, 0));
        check.due("the oldest that is kept, its number", x.event(149, 0), 5);
        check.due("the oldest that is kept, its tick", x.event(149, 1), 2);
        check.due("the oldest that is kept, its caller", x.event(149, 2), 0);
        check.due("the oldest that is kept, its slot", x.event(149, 3), -1);
        check.due("one too old", x.event(150, 0), -1);
        x.run(44);
        check.due("events", x.count(17), 240);
        for (int i = 0; i < 148; i++) {
            int caller = 59 - i / 4;
            int part = 3 - i % 4;
            check.due("number of " + i, x.event(i, 0), new int[] {0, 6, 5, 7}[part]);
            check.due("tick of " + i, x.event(i, 1), 2 * caller + 1 + part / 2);
            check.due("caller of " + i, x.event(i, 2), part % 2 == 0 ? caller : -1);
            check.due("slot of " + i, x.event(i, 3), part % 2 == 0 ? -1 : 0);
        }
        for (int wrong : new int[] {Integer.MIN_VALUE, -1, 4, Integer.MAX_VALUE}) {
            check.due("event(0, " + wrong + ")", x.event(0, wrong), -1);
        }
        for (int wrong : new int[] {Integer.MIN_VALUE, -1, 150, 240, Integer.MAX_VALUE}) {
            check.due("event(" + wrong + ", 0)", x.event(wrong, 0), -1);
        }
        x.clear();
        check.due("event after clear", x.event(0, 0), -1);
        check.due("events after clear", x.count(17), 0);
        check.end();
    }
}
