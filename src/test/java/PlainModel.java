import java.util.ArrayList;
import java.util.List;
import java.util.NoSuchElementException;
import java.util.TreeMap;

/**
 * The document's words once more, with lists and without care for time or room, so that ModelTest
 * can hold the program against them. It shares no code with the program.
 */
final class PlainModel {
    private static final class Unit {
        boolean left = true;
        long since = 0;
        Piece piece = null;
    }

    private static final class Piece {
        long time;
    }

    private static final class Src {
        int number;
        int top;
        int cost;
        int distance;
        int budget;
        int period;
        int priority;
        final List<Long> queue = new ArrayList<>();
        final List<Unit> units = new ArrayList<>();
        final List<Piece> pieces = new ArrayList<>();
        final List<Long> delays = new ArrayList<>();
        boolean masked;
        int taken;
        int lost;
        int maskings;
        int firstEventDone;
        long busySince = -1;

        boolean ready() {
            return !queue.isEmpty() && units.stream().anyMatch(u -> u.left);
        }
    }

    private static final class Tsk {
        int number;
        int period;
        int cost;
        int priority;
        long begin;
        int left;
        int missed;
        int done;
    }

    private static final class Top {
        Src of;
        int left;
    }

    private final TreeMap<Integer, Src> sources = new TreeMap<>();
    private final TreeMap<Integer, Tsk> tasks = new TreeMap<>();
    private final List<Top> tops = new ArrayList<>();
    private final List<Integer> history = new ArrayList<>();
    private long time = 0;

    /** How often rare states were reached, by all models: runs that never reach one don't test it. */
    static final TreeMap<String, Integer> REACHED = new TreeMap<>();

    private static void reached(String state, boolean now) {
        REACHED.merge(state, now ? 1 : 0, Integer::sum);
    }

    void source(int source, int top, int cost, int distance, int budget, int period, int priority) {
        if (source < 0 || source > 5) {
            throw new NoSuchElementException();
        }
        if (top < 0 || top > 3 || cost < 1 || cost > 30 || distance < 1 || distance > 2000 || budget < 1
                || budget > 30 || period < 1 || period > 500 || priority < 0 || priority > 31) {
            throw new IllegalArgumentException();
        }
        if (sources.containsKey(source) || sources.values().stream().anyMatch(s -> s.priority == priority)) {
            throw new IllegalStateException();
        }
        Src s = new Src();
        s.number = source;
        s.top = top;
        s.cost = cost;
        s.distance = distance;
        s.budget = budget;
        s.period = period;
        s.priority = priority;
        for (int i = 0; i < budget; i++) {
            s.units.add(new Unit());
        }
        sources.put(source, s);
        reached("a source is refused for the base tasks", !admitted());
        if (!admitted()) {
            sources.remove(source);
            throw new IllegalStateException();
        }
    }

    boolean base(int task, int period, int cost, int priority) {
        if (task < 0 || task > 5) {
            throw new NoSuchElementException();
        }
        if (period < 1 || period > 2000 || cost < 1 || cost > 500 || priority < 0 || priority > 31) {
            throw new IllegalArgumentException();
        }
        if (tasks.containsKey(task) || tasks.values().stream().anyMatch(t -> t.priority == priority)) {
            throw new IllegalStateException();
        }
        Tsk t = new Tsk();
        t.number = task;
        t.period = period;
        t.cost = cost;
        t.priority = priority;
        t.begin = time;
        tasks.put(task, t);
        reached("a base task is admitted", admitted());
        reached("a base task is not admitted", !admitted());
        if (!admitted()) {
            tasks.remove(task);
            return false;
        }
        return true;
    }

    int event(int source) {
        Src s = known(source);
        if (s.masked || s.queue.size() == 32) {
            s.lost++;
            return 0;
        }
        s.taken++;
        if (s.top > 0) {
            Top t = new Top();
            t.of = s;
            t.left = s.top;
            tops.add(t);
        }
        if (s.queue.isEmpty()) {
            s.busySince = time;
        }
        s.queue.add(time);
        reached("a source comes to be masked", s.queue.size() > 24);
        if (s.queue.size() > 24) {
            s.masked = true;
            s.maskings++;
        }
        return 1;
    }

    int tick() {
        giveBack();
        for (Tsk t : tasks.values()) {
            boolean begins = false;
            for (long at = t.begin; at <= time; at += t.period) {
                begins |= at == time;
            }
            if (begins) {
                reached("a base task missed", t.left != 0);
                if (t.left != 0) {
                    t.missed++;
                }
                t.left = t.cost;
            }
        }
        int ran = runOne();
        history.add(ran);
        time++;
        giveBack();
        return ran;
    }

    private int runOne() {
        if (!tops.isEmpty()) {
            Top first = tops.get(0);
            first.left--;
            if (first.left == 0) {
                tops.remove(0);
            }
            return 10 + first.of.number;
        }
        Src best = null;
        for (Src s : sources.values()) {
            if (s.ready() && (best == null || s.priority > best.priority)) {
                best = s;
            }
        }
        if (best != null) {
            spend(best);
            best.firstEventDone++;
            if (best.firstEventDone == best.cost) {
                best.delays.add(time + 1 - best.queue.remove(0));
                best.firstEventDone = 0;
                reached("a source is masked no more", best.masked && best.queue.size() == 8);
                if (best.queue.size() == 8) {
                    best.masked = false;
                }
            }
            return 20 + best.number;
        }
        Tsk work = null;
        for (Tsk t : tasks.values()) {
            if (t.left > 0 && (work == null || t.priority > work.priority)) {
                work = t;
            }
        }
        if (work == null) {
            return 0;
        }
        work.left--;
        if (work.left == 0) {
            work.done++;
        }
        return 30 + work.number;
    }

    private void spend(Src s) {
        Unit earliest = null;
        for (Unit u : s.units) {
            if (u.left && (earliest == null || u.since < earliest.since)) {
                earliest = u;
            }
        }
        long could = Math.max(earliest.since, s.busySince);
        reached("a unit could be spent since a period or more", could <= time - s.period);
        if (could <= time - s.period) {
            could = time;
        }
        long back = could + s.period;
        Piece last = s.pieces.isEmpty() ? null : s.pieces.get(s.pieces.size() - 1);
        if (last == null || last.time != back && s.pieces.size() < 16) {
            last = new Piece();
            last.time = back;
            s.pieces.add(last);
        }
        reached("one more than sixteen pieces, and the new time is later", last.time < back);
        reached("one more than sixteen pieces, and the new time is earlier", last.time > back);
        last.time = Math.max(last.time, back);
        earliest.left = false;
        earliest.piece = last;
    }

    private void giveBack() {
        for (Src s : sources.values()) {
            for (Unit u : s.units) {
                if (!u.left && u.piece.time <= time) {
                    u.left = true;
                    u.since = time;
                    u.piece = null;
                }
            }
            s.pieces.removeIf(p -> p.time <= time);
        }
    }

    int ticks(int n) {
        if (n < 0 || n > 500) {
            throw new IllegalArgumentException();
        }
        int ran = 0;
        for (int i = 0; i < n; i++) {
            ran += tick() == 0 ? 0 : 1;
        }
        return ran;
    }

    int about(int source, int what) {
        Src s = known(source);
        Piece least = null;
        for (Piece p : s.pieces) {
            if (least == null || p.time < least.time) {
                least = p;
            }
        }
        Piece next = least;
        reached("the piece with the least time is not the first", next != null && next != s.pieces.get(0));
        reached("several pieces have the least time",
                s.pieces.stream().filter(p -> p.time == next.time).count() > 1);
        switch (what) {
            case 0: return s.taken;
            case 1: return s.delays.size();
            case 2: return s.lost;
            case 3: return s.queue.size();
            case 4: return s.masked ? 1 : 0;
            case 5: return s.maskings;
            case 6: return (int) s.units.stream().filter(u -> u.left).count();
            case 7: return s.pieces.size();
            case 8: return next == null ? -1 : (int) next.time;
            case 9: return next == null ? 0 : (int) s.units.stream().filter(u -> u.piece == next).count();
            case 10: return (int) s.delays.stream().mapToLong(d -> d).max().orElse(0);
            case 11: return s.firstEventDone;
            case 12: return s.queue.isEmpty() ? -1 : (int) s.busySince;
            default: throw new IndexOutOfBoundsException();
        }
    }

    int task(int task, int what) {
        Tsk t = tasks.get(task);
        if (t == null) {
            throw new NoSuchElementException();
        }
        switch (what) {
            case 0: return t.left;
            case 1: return t.missed;
            case 2: return t.done;
            case 3: return (int) boundOfTask(t);
            default: throw new IndexOutOfBoundsException();
        }
    }

    int bound(int source) {
        Src s = known(source);
        if (s.cost > s.budget || s.distance < s.period) {
            return -1;
        }
        // The least of all that fit, sought one by one.
        for (long r = 1; r <= s.period; r++) {
            long right = s.cost;
            for (Src o : sources.values()) {
                right += o.priority > s.priority ? (ceil(r, o.period) + 1) * o.budget : 0;
                right += (ceil(r, o.distance) + 1) * o.top;
            }
            if (r == right) {
                return (int) r;
            }
        }
        return -1;
    }

    int used(int source, boolean withTops, int from, int to) {
        known(source);
        if (!(0 <= from && from <= to && to <= time) || from < time - 1000) {
            throw new IndexOutOfBoundsException();
        }
        int count = 0;
        for (int ran : history.subList(from, to)) {
            count += ran == 20 + source || withTops && ran == 10 + source ? 1 : 0;
        }
        return count;
    }

    int floor(int span) {
        if (span < 0 || span > 100000) {
            throw new IllegalArgumentException();
        }
        return (int) Math.max(0, span - taken(span));
    }

    int time() {
        return (int) time;
    }

    private Src known(int source) {
        Src s = sources.get(source);
        if (s == null) {
            throw new NoSuchElementException();
        }
        return s;
    }

    private boolean admitted() {
        return tasks.values().stream().allMatch(t -> boundOfTask(t) > 0);
    }

    private long boundOfTask(Tsk t) {
        for (long r = 1; r <= t.period; r++) {
            long right = t.cost + taken(r);
            for (Tsk o : tasks.values()) {
                right += o.priority > t.priority ? ceil(r, o.period) * o.cost : 0;
            }
            if (r == right) {
                return r;
            }
        }
        return -1;
    }

    private long taken(long r) {
        long sum = 0;
        for (Src s : sources.values()) {
            sum += (ceil(r, s.period) + 1) * s.budget + (ceil(r, s.distance) + 1) * s.top;
        }
        return sum;
    }

    private static long ceil(long a, long b) {
        return a / b + (a % b == 0 ? 0 : 1);
    }
}
