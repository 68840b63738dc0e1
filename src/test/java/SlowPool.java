import java.util.ArrayList;
import java.util.Comparator;
import java.util.List;
import java.util.TreeMap;

/**
 * The pool once more, in the document's words, with lists and maps and none of the class's ways. It is
 * by the same hand as the class and came after it: it finds slips, not a misreading that both share.
 */
final class SlowPool {
    enum At { OPENING, IDLE, TRYING, LENT }

    enum Is { NOT_YET, WAITING, TRYING, WORK, HOLDING, DONE, FAILED, LEAKED, UP }

    static final class Wire {
        At at;
        boolean bad;
        Person of;
        int left;
        int from;
    }

    static final class Person {
        int id;
        int kind;
        int rank;
        int patience;
        int work;
        int tick;
        Is is = Is.NOT_YET;
        int todo;
        int from;
        int rounds;
    }

    final int[] number = {4, 2, 1, 100, 50, 1};
    final int[] speed = {10, 10, 10, 10, 10, 10, 10, 10, 10, 10, 10, 10};
    final TreeMap<Integer, Wire> wires = new TreeMap<>();
    final List<Person> people = new ArrayList<>();
    final List<int[]> breaks = new ArrayList<>();
    final List<int[]> events = new ArrayList<>();
    final List<Integer> waits = new ArrayList<>();
    int tick;
    int tries;

    int caller(int kind, int rank, int patience, int work, int comes) {
        Person p = new Person();
        p.id = people.size();
        p.kind = kind;
        p.rank = rank;
        p.patience = patience;
        p.work = work;
        p.todo = work;
        p.tick = comes;
        people.add(p);
        return p.id;
    }

    int run(int n) {
        long before = many(2);
        for (int i = 0; i < n; i++) {
            tick++;
            step1();
            step2();
            step3();
            step4();
            step5();
            step6();
            step7();
        }
        return (int) (many(2) - before);
    }

    private void log(int what, Person p, int slot) {
        events.add(new int[] {what, tick, p == null ? -1 : p.id, slot});
    }

    private void gone(int slot) {
        wires.remove(slot);
        log(7, null, slot);
    }

    private void idle(Wire w) {
        w.at = At.IDLE;
        w.of = null;
        w.from = tick;
    }

    private List<Integer> slotsOf(Person p) {
        return wires.keySet().stream().filter(s -> wires.get(s).of == p).toList();
    }

    private List<Person> those(Is is) {
        return people.stream().filter(p -> p.is == is).toList();
    }

    private void lent(int slot, Person p) {
        Wire w = wires.get(slot);
        boolean first = wires.values().stream().noneMatch(o -> o != w && o.of == p);
        w.at = At.LENT;
        w.of = p;
        w.from = tick;
        p.is = Is.WORK;
        if (first) {
            waits.add(tick - p.tick);
        }
        log(1, p, slot);
    }

    private void step1() {
        for (int[] b : breaks) {
            if (b[0] == tick && wires.containsKey(b[1])) {
                wires.get(b[1]).bad = true;
            }
        }
    }

    private void step2() {
        for (int slot : List.copyOf(wires.keySet())) {
            Wire w = wires.get(slot);
            if (w.at == At.OPENING && --w.left == 0) {
                idle(w);
            } else if (w.at == At.TRYING && --w.left == 0) {
                if (w.bad) {
                    w.of.is = Is.WAITING;
                    gone(slot);
                } else {
                    lent(slot, w.of);
                }
            }
        }
    }

    private void step3() {
        for (Person p : those(Is.WORK)) {
            List<Integer> slots = slotsOf(p);
            if (slots.stream().anyMatch(s -> wires.get(s).bad)) {
                p.is = Is.FAILED;
                log(3, p, -1);
                for (int s : slots) {
                    if (wires.get(s).bad) {
                        gone(s);
                    } else {
                        idle(wires.get(s));
                    }
                }
            }
        }
        List<Person> workers = those(Is.WORK);
        for (Person p : workers) {
            int done = speed[workers.size() > 12 ? 11 : workers.size() - 1];
            p.todo = p.todo > done ? p.todo - done : 0;
        }
    }

    private void free(Person p, Is is, int event) {
        p.is = is;
        log(event, p, -1);
        for (int s : slotsOf(p)) {
            idle(wires.get(s));
        }
    }

    private void step4() {
        for (Person p : those(Is.WORK)) {
            if (p.todo == 0) {
                p.rounds++;
                if (p.kind == 1) {
                    p.is = Is.HOLDING;
                } else if (p.kind == 2 && p.rounds == 1) {
                    p.is = Is.WAITING;
                    p.from = tick;
                    p.todo = p.work;
                } else {
                    free(p, Is.DONE, 2);
                }
            }
        }
        for (Person p : people) {
            boolean leaks = slotsOf(p).stream().map(wires::get)
                .anyMatch(w -> w.at == At.LENT && tick - w.from >= number[3]);
            if (leaks) {
                free(p, Is.LEAKED, 4);
            }
        }
    }

    private void step5() {
        for (Person p : people) {
            if (p.tick == tick) {
                p.is = Is.WAITING;
                p.from = tick;
                log(0, p, -1);
            }
        }
        for (Person p : those(Is.WAITING)) {
            if (tick - p.from > p.patience) {
                free(p, Is.UP, 5);
            }
        }
    }

    private void step6() {
        while (true) {
            Person p = those(Is.WAITING).stream()
                .min(Comparator.<Person>comparingInt(q -> q.rank).thenComparingInt(q -> q.id)).orElse(null);
            Integer slot = wires.keySet().stream().filter(s -> wires.get(s).at == At.IDLE)
                .min(Comparator.<Integer>comparingInt(s -> -wires.get(s).from).thenComparingInt(s -> s)).orElse(null);
            if (p == null || slot == null) {
                return;
            }
            Wire w = wires.get(slot);
            if (number[2] > 0) {
                tries++;
                w.at = At.TRYING;
                w.of = p;
                w.left = number[2];
                p.is = Is.TRYING;
                log(8, p, slot);
            } else if (number[2] == 0) {
                tries++;
                if (w.bad) {
                    gone(slot);
                } else {
                    lent(slot, p);
                }
            } else {
                lent(slot, p);
            }
        }
    }

    private boolean wantsMore() {
        int lines = wires.size();
        long used = wires.values().stream().filter(w -> w.at == At.LENT || w.at == At.TRYING).count();
        return lines < number[0] && (lines < number[5] || lines < used + those(Is.WAITING).size());
    }

    private void step7() {
        for (int s = 0; s < 12; s++) {
            Wire w = wires.get(s);
            if (w != null && w.at == At.IDLE && tick - w.from >= number[4] && wires.size() > number[5]) {
                gone(s);
            }
        }
        for (int s = 11; s >= 0; s--) {
            Wire w = wires.get(s);
            if (w != null && w.at == At.IDLE && wires.size() > number[0]) {
                gone(s);
            }
        }
        while (wantsMore()) {
            int slot = 0;
            while (wires.containsKey(slot)) {
                slot++;
            }
            Wire w = new Wire();
            wires.put(slot, w);
            log(6, null, slot);
            if (number[1] == 0) {
                idle(w);
            } else {
                w.at = At.OPENING;
                w.left = number[1];
            }
        }
    }

    private long many(int event) {
        return events.stream().filter(e -> e[0] == event).count();
    }

    private long at(At at) {
        return wires.values().stream().filter(w -> w.at == at).count();
    }

    long count(int what) {
        return switch (what) {
            case 0 -> tick;
            case 1 -> people.size();
            case 2 -> those(Is.WAITING).size();
            case 3 -> those(Is.WORK).size();
            case 4 -> wires.size();
            case 5 -> at(At.IDLE);
            case 6 -> at(At.LENT);
            case 7 -> those(Is.DONE).size();
            case 8 -> those(Is.FAILED).size();
            case 9 -> those(Is.LEAKED).size();
            case 10 -> those(Is.UP).size();
            case 11 -> tries;
            case 12 -> many(6);
            case 13 -> many(7);
            case 14 -> waits.stream().mapToLong(w -> w).sum();
            case 15 -> waits.size();
            case 16 -> waits.stream().mapToLong(w -> w).max().orElse(0);
            case 17 -> events.size();
            default -> -1;
        };
    }

    int slot(int s, int what) {
        Wire w = wires.get(s);
        if (w == null) {
            return what == 2 ? -1 : 0;
        }
        boolean timed = w.at == At.OPENING || w.at == At.TRYING;
        return switch (what) {
            case 0 -> w.at.ordinal() + 1;
            case 1 -> w.bad ? 1 : 0;
            case 2 -> w.of == null ? -1 : w.of.id;
            case 3 -> timed ? w.left : 0;
            default -> timed ? 0 : w.from;
        };
    }

    int told(int c, int what) {
        Person p = people.get(c);
        return switch (what) {
            case 0 -> p.is.ordinal();
            case 1 -> p.todo;
            case 2 -> (int) slotsOf(p).stream().filter(s -> wires.get(s).at == At.LENT).count();
            case 3 -> p.from;
            case 4 -> p.kind;
            default -> p.rank;
        };
    }

    int event(int i, int what) {
        return i >= 150 || i >= events.size() ? -1 : events.get(events.size() - 1 - i)[what];
    }
}
