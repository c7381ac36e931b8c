import java.util.ArrayList;
import java.util.List;
import java.util.NoSuchElementException;
import java.util.Random;
import java.util.function.Consumer;

/** Calls that throw: they change nothing, and throw what the call names first. */
public final class RefusalTest {
    private static final Class<NoSuchElementException> NO_SUCH = NoSuchElementException.class;
    private static final Class<IllegalArgumentException> ARGUMENT = IllegalArgumentException.class;
    private static final Class<IllegalStateException> STATE = IllegalStateException.class;
    private static final Class<IndexOutOfBoundsException> INDEX = IndexOutOfBoundsException.class;
    private static final int[] OUTSIDE = {-1, 6, Integer.MIN_VALUE, Integer.MAX_VALUE};

    /** A call that is refused in each state that comes from crowded(). */
    private record Refused(String name, Class<? extends RuntimeException> want, Consumer<BudgetKernel> call) {
    }

    private static final List<Refused> REFUSED = new ArrayList<>();

    public static void main(String[] args) {
        refusedSources();
        refusedTasks();
        refusedAnswers();
        changesNothing();
        namesFirst();
        notToldYet();
        Check.end();
    }

    private static void refuse(String name, Class<? extends RuntimeException> want, Consumer<BudgetKernel> call) {
        REFUSED.add(new Refused(name, want, call));
    }

    /** Sources 0 to 3 and base tasks 0 and 1 are told. */
    private static BudgetKernel crowded() {
        BudgetKernel k = new BudgetKernel();
        k.source(0, 1, 3, 200, 2, 50, 5);
        k.source(1, 0, 2, 300, 4, 60, 9);
        k.source(2, 3, 1, 400, 3, 70, 2);
        k.source(3, 2, 5, 500, 5, 80, 20);
        Check.due("base task 0", k.base(0, 150, 5, 3), true);
        Check.due("base task 1", k.base(1, 400, 10, 1), true);
        return k;
    }

    private static void refusedSources() {
        for (int source : OUTSIDE) {
            refuse("source " + source, NO_SUCH, k -> k.source(source, 0, 1, 1, 1, 1, 30));
        }
        int[] good = {0, 1, 500, 1, 500, 30};
        int[] least = {0, 1, 1, 1, 1, 0};
        int[] greatest = {3, 30, 2000, 30, 500, 31};
        for (int i = 0; i < good.length; i++) {
            for (int wrong : new int[] {least[i] - 1, greatest[i] + 1}) {
                int[] a = good.clone();
                a[i] = wrong;
                refuse("number " + i + " is " + wrong, ARGUMENT, k -> k.source(4, a[0], a[1], a[2], a[3], a[4], a[5]));
            }
        }
        refuse("source 0 again", STATE, k -> k.source(0, 0, 1, 1000, 1, 500, 31));
        refuse("source 3 again", STATE, k -> k.source(3, 2, 5, 500, 5, 80, 20));
        refuse("source 4 with a priority of another", STATE, k -> k.source(4, 0, 1, 1000, 1, 500, 9));
        refuse("source 4 that leaves too little", STATE, k -> k.source(4, 0, 1, 1000, 30, 1, 30));
        refuse("source 5 whose top halves leave too little", STATE, k -> k.source(5, 3, 1, 1, 1, 500, 30));
    }

    private static void refusedTasks() {
        for (int task : OUTSIDE) {
            refuse("base " + task, NO_SUCH, k -> k.base(task, 1000, 1, 30));
        }
        int[][] wrong = {{0, 1, 30}, {2001, 1, 30}, {1000, 0, 30}, {1000, 501, 30}, {1000, 1, -1}, {1000, 1, 32}};
        for (int[] a : wrong) {
            refuse("base 4 of " + a[0] + " " + a[1] + " " + a[2], ARGUMENT, k -> k.base(4, a[0], a[1], a[2]));
        }
        refuse("base 0 again", STATE, k -> k.base(0, 1000, 1, 30));
        refuse("base 1 again", STATE, k -> k.base(1, 400, 10, 1));
        refuse("base 4 with a priority of another", STATE, k -> k.base(4, 1000, 1, 3));
    }

    private static void refusedAnswers() {
        for (int source : new int[] {-1, 4, 5, 6}) {
            refuse("event " + source, NO_SUCH, k -> k.event(source));
            refuse("about " + source, NO_SUCH, k -> k.about(source, 0));
            refuse("bound " + source, NO_SUCH, k -> k.bound(source));
            refuse("used " + source, NO_SUCH, k -> k.used(source, true, 0, 0));
        }
        for (int task : new int[] {-1, 4, 5, 6}) {
            refuse("task " + task, NO_SUCH, k -> k.task(task, 0));
        }
        refuse("ticks -1", ARGUMENT, k -> k.ticks(-1));
        refuse("ticks 501", ARGUMENT, k -> k.ticks(501));
        refuse("about 0, -1", INDEX, k -> k.about(0, -1));
        refuse("about 0, 13", INDEX, k -> k.about(0, 13));
        refuse("task 0, -1", INDEX, k -> k.task(0, -1));
        refuse("task 0, 4", INDEX, k -> k.task(0, 4));
        refuse("used from -1", INDEX, k -> k.used(0, true, -1, 0));
        refuse("used to the time and one more", INDEX, k -> k.used(0, true, 0, 1000000));
        refuse("used from 1 to 0", INDEX, k -> k.used(0, true, 1, 0));
        refuse("floor -1", ARGUMENT, k -> k.floor(-1));
        refuse("floor 100001", ARGUMENT, k -> k.floor(100001));
    }

    /** Two kernels get the same calls; the second one also gets, between them, those that are refused. */
    private static void changesNothing() {
        Check.sentence("A call that throws changes nothing");
        int next = 0;
        for (int seed = 0; seed < 40; seed++) {
            Random random = new Random(seed);
            int greatestTicks = seed % 2 == 0 ? 3 : 60;
            BudgetKernel plain = crowded();
            BudgetKernel refusing = crowded();
            for (int i = 0; i < 150; i++) {
                int n = random.nextInt(10) < 6 ? -1 - random.nextInt(4) : random.nextInt(greatestTicks + 1);
                Check.due("seed " + seed + ", call " + i, step(refusing, n), step(plain, n));
                Refused refused = REFUSED.get(next++ % REFUSED.size());
                Check.dueThrow("seed " + seed + ", " + refused.name, refused.want, () -> refused.call.accept(refusing));
                if (i % 10 == 0) {
                    Check.due("not admitted", refusing.base(4, 1, 500, 30), false);
                }
            }
            Check.due("the state, seed " + seed, Check.state(refusing), Check.state(plain));
        }
        BudgetKernel k = crowded();
        for (Refused refused : REFUSED) {
            Check.dueThrow(refused.name, refused.want, () -> refused.call.accept(k));
        }
        Check.due("all of them, and no more", Check.state(k), Check.state(crowded()));
        Check.dueNoThrow("what was refused is free", () -> k.source(4, 0, 1, 1000, 1, 500, 30));
        Check.due("for base tasks, too", k.base(4, 1000, 1, 30), true);
    }

    /** An event of source -1 - n for an n below 0, else n ticks; what it answered. */
    private static int step(BudgetKernel k, int n) {
        return n < 0 ? k.event(-1 - n) : n == 0 ? k.tick() : k.ticks(n);
    }

    private static void namesFirst() {
        Check.sentence("where several exceptions that a call names fit, it is the one that it names first.");
        BudgetKernel k = crowded();
        for (int outside : OUTSIDE) {
            Check.dueThrow("source, all wrong", NO_SUCH, () -> k.source(outside, -1, 0, 0, 0, 0, -1));
            Check.dueThrow("source, a priority of another", NO_SUCH, () -> k.source(outside, 0, 1, 1, 1, 1, 5));
            Check.dueThrow("base, all wrong", NO_SUCH, () -> k.base(outside, 0, 0, -1));
            Check.dueThrow("base, a priority of another", NO_SUCH, () -> k.base(outside, 100, 1, 3));
            Check.dueThrow("about, no such what", NO_SUCH, () -> k.about(outside, 13));
            Check.dueThrow("task, no such what", NO_SUCH, () -> k.task(outside, 4));
            Check.dueThrow("used, no such ticks", NO_SUCH, () -> k.used(outside, true, 1, 0));
        }
        Check.dueThrow("source told, a number wrong", ARGUMENT, () -> k.source(0, 4, 1, 1, 1, 1, 30));
        Check.dueThrow("source told, its priority wrong", ARGUMENT, () -> k.source(0, 0, 1, 1, 1, 1, 32));
        Check.dueThrow("a priority of another, a number wrong", ARGUMENT, () -> k.source(4, 0, 31, 1, 1, 1, 5));
        Check.dueThrow("too little left, a number wrong", ARGUMENT, () -> k.source(4, 0, 1, 0, 30, 1, 30));
        Check.dueThrow("base told, a number wrong", ARGUMENT, () -> k.base(0, 0, 1, 30));
        Check.dueThrow("base with a priority of another, a number wrong", ARGUMENT, () -> k.base(4, 100, 0, 3));
        Check.dueThrow("base told, that would not be admitted", STATE, () -> k.base(0, 1, 500, 30));
        Check.dueThrow("a priority of another, not admitted", STATE, () -> k.base(4, 1, 500, 3));
        Check.dueThrow("about of a source not told, no such what", NO_SUCH, () -> k.about(4, -1));
        Check.dueThrow("task not told, no such what", NO_SUCH, () -> k.task(4, -1));
        Check.dueThrow("used of a source not told, no such ticks", NO_SUCH, () -> k.used(4, true, -1, 0));
    }

    private static void notToldYet() {
        Check.sentence("NoSuchElementException: there is no such source (that was not told yet, too), or base task (likewise).");
        BudgetKernel k = new BudgetKernel();
        for (int i = 0; i <= 5; i++) {
            int n = i;
            Check.dueThrow("event " + n, NO_SUCH, () -> k.event(n));
            Check.dueThrow("about " + n, NO_SUCH, () -> k.about(n, 12));
            Check.dueThrow("bound " + n, NO_SUCH, () -> k.bound(n));
            Check.dueThrow("used " + n, NO_SUCH, () -> k.used(n, false, 0, 0));
            Check.dueThrow("task " + n, NO_SUCH, () -> k.task(n, 3));
            k.source(n, 0, 1, 500, 1, 500, n);
            Check.dueThrow("a source is no base task " + n, NO_SUCH, () -> k.task(n, 0));
            k.base(n, 2000, 1, n);
            Check.due("told: event " + n, k.event(n), 1);
            Check.due("told: about " + n, k.about(n, 12), 0);
            Check.due("told: bound " + n, k.bound(n) > 0, true);
            Check.due("told: used " + n, k.used(n, false, 0, 0), 0);
            Check.due("told: task " + n, k.task(n, 1), 0);
        }
        BudgetKernel tasks = new BudgetKernel();
        tasks.base(2, 2000, 1, 0);
        Check.dueThrow("a base task is no source", NO_SUCH, () -> tasks.event(2));
    }
}
