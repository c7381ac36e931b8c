import java.util.NoSuchElementException;

/** Promise 4: event. */
public final class EventTest {
    public static void main(String[] args) {
        noSuchSource();
        masking();
        topsInTheOrderOfEvents();
        busySince();
        Check.end();
    }

    private static void noSuchSource() {
        Check.sentence("AN EVENT now: 1 when it is taken, 0 when it is lost. NoSuchElementException.");
        BudgetKernel k = new BudgetKernel();
        k.source(3, 1, 1, 1, 1, 1, 0);
        for (int source : new int[] {-1, 0, 2, 4, 5, 6, Integer.MIN_VALUE, Integer.MAX_VALUE}) {
            Check.dueThrow("event " + source, NoSuchElementException.class, () -> k.event(source));
        }
        Check.due("the source that was told", k.event(3), 1);
    }

    private static void masking() {
        BudgetKernel k = new BudgetKernel();
        k.source(0, 0, 1, 1, 30, 500, 0);
        for (int i = 1; i <= 24; i++) {
            Check.due("event " + i, k.event(0), 1);
        }
        Check.due("24 do not mask", k.about(0, 4), 0);
        Check.due("event 25", k.event(0), 1);
        Check.due("25 mask", k.about(0, 4), 1);
        Check.due("how often", k.about(0, 5), 1);
        Check.due("event 26", k.event(0), 0);
        Check.due("taken", k.about(0, 0), 25);
        Check.due("lost", k.about(0, 2), 1);
        Check.due("in the queue", k.about(0, 3), 25);
        k.ticks(16);
        Check.due("9 are left", k.about(0, 3), 9);
        Check.due("9 leave it masked", k.about(0, 4), 1);
        Check.due("an event while 9 are left", k.event(0), 0);
        k.tick();
        Check.due("8 unmask", k.about(0, 4), 0);
        Check.due("an event behind the 8", k.event(0), 1);
        Check.due("9 do not mask again", k.about(0, 4), 0);
        for (int i = 10; i <= 25; i++) {
            Check.due("again, event " + i, k.event(0), 1);
        }
        Check.due("masked again", k.about(0, 4), 1);
        Check.due("how often now", k.about(0, 5), 2);
        Check.due("all that were lost", k.about(0, 2), 2);
        Check.due("all that were taken", k.about(0, 0), 42);
    }

    private static void topsInTheOrderOfEvents() {
        BudgetKernel k = new BudgetKernel();
        k.source(0, 2, 1, 1, 1, 500, 0);
        k.source(1, 0, 1, 1, 1, 500, 1);
        k.source(2, 1, 1, 1, 1, 500, 2);
        k.event(1);
        k.event(0);
        k.event(2);
        k.event(0);
        int[] want = {10, 10, 12, 10, 10, 22, 21, 20, 0};
        for (int i = 0; i < want.length; i++) {
            Check.due("tick " + i, k.tick(), want[i]);
        }
        Check.due("a lost event opens no top half", lostEventsTop(), 75);
    }

    private static int lostEventsTop() {
        BudgetKernel k = new BudgetKernel();
        k.source(0, 3, 30, 1, 1, 500, 0);
        for (int i = 0; i < 40; i++) {
            k.event(0);
        }
        k.ticks(300);
        return k.used(0, true, 0, 300) - k.used(0, false, 0, 300);
    }

    private static void busySince() {
        BudgetKernel k = new BudgetKernel();
        k.source(0, 0, 2, 1, 30, 500, 0);
        k.ticks(3);
        k.event(0);
        k.tick();
        k.event(0);
        Check.due("busy since the first event", k.about(0, 12), 3);
        k.ticks(3);
        Check.due("empty", k.about(0, 12), -1);
        k.event(0);
        Check.due("busy since it was filled again", k.about(0, 12), 7);
    }
}
