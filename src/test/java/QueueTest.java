/** The terms' queue and event: empty, full, masked, lost. */
public final class QueueTest {
    public static void main(String[] args) {
        atMost32();
        masked();
        maskedAgain();
        notMaskedOnTheWayUp();
        lost();
        lostChangesNothingElse();
        topsInARow();
        theRowIsFull();
        topsOfZero();
        timesInTheQueue();
        Check.end();
    }

    private static BudgetKernel one(int top, int cost, int budget, int period) {
        BudgetKernel k = new BudgetKernel();
        k.source(0, top, cost, 1, budget, period, 7);
        return k;
    }

    /** Masked at 25, it never comes to 32; what it holds is what was taken and is not handled. */
    private static void atMost32() {
        Check.sentence("Its QUEUE holds the times of at most 32 events that were TAKEN and are not handled.");
        BudgetKernel k = one(0, 1, 30, 50);
        Check.due("empty", k.about(0, 3), 0);
        for (int round = 0; round < 8; round++) {
            Check.events(k, 0, 33);
            Check.due("not more than 32", k.about(0, 3) <= 32, true);
            Check.due("taken, not handled", k.about(0, 3), k.about(0, 0) - k.about(0, 1));
            Check.due("taken or lost", k.about(0, 0) + k.about(0, 2), 33 * (round + 1));
            k.ticks(13);
            Check.due("handled ones are gone", k.about(0, 3), k.about(0, 0) - k.about(0, 1));
        }
    }

    private static void masked() {
        Check.sentence("It is MASKED from when its queue has more than 24 until it has 8.");
        BudgetKernel k = one(0, 2, 30, 1);
        Check.events(k, 0, 24);
        Check.due("24: masked", k.about(0, 4), 0);
        Check.due("24: how often", k.about(0, 5), 0);
        Check.due("the 25th is taken", k.event(0), 1);
        Check.due("25: masked", k.about(0, 4), 1);
        Check.due("25: how often", k.about(0, 5), 1);
        k.ticks(2);
        Check.due("24 are left", k.about(0, 3), 24);
        Check.due("24 left: still masked", k.about(0, 4), 1);
        k.ticks(31);
        Check.due("9 are left, one half done", k.about(0, 3), 9);
        Check.due("9 left: still masked", k.about(0, 4), 1);
        Check.due("9 left: an event is lost", k.event(0), 0);
        k.tick();
        Check.due("8 are left", k.about(0, 3), 8);
        Check.due("8 left: masked", k.about(0, 4), 0);
        Check.due("8 left: an event is taken", k.event(0), 1);
    }

    private static void maskedAgain() {
        BudgetKernel k = one(0, 1, 30, 1);
        for (int round = 1; round <= 3; round++) {
            Check.events(k, 0, 24 - k.about(0, 3));
            Check.due("round " + round + ": 24", k.about(0, 4), 0);
            k.event(0);
            Check.due("round " + round + ": 25", k.about(0, 4), 1);
            Check.due("round " + round + ": how often", k.about(0, 5), round);
            k.ticks(17);
            Check.due("round " + round + ": 8", k.about(0, 4), 0);
            Check.due("round " + round + ": how often, unmasked", k.about(0, 5), round);
        }
        k.ticks(8);
        Check.due("empty", k.about(0, 3), 0);
        Check.due("empty: masked", k.about(0, 4), 0);
    }

    private static void notMaskedOnTheWayUp() {
        BudgetKernel k = one(0, 1, 30, 1);
        for (int round = 0; round < 3; round++) {
            Check.events(k, 0, 24 - k.about(0, 3));
            k.ticks(10);
            Check.due("14 of 24", k.about(0, 3), 14);
            Check.due("never masked", k.about(0, 5), 0);
            Check.due("none lost", k.about(0, 2), 0);
        }
    }

    private static void lost() {
        Check.sentence("is it masked, or are 32 in the queue, it is LOST.");
        BudgetKernel k = one(0, 1, 30, 500);
        k.source(1, 0, 1, 1, 30, 500, 6);
        Check.events(k, 0, 25);
        for (int i = 26; i <= 40; i++) {
            Check.due("event " + i, k.event(0), 0);
            Check.due("lost", k.about(0, 2), i - 25);
            Check.due("in the queue", k.about(0, 3), 25);
        }
        Check.due("another source is not masked", k.event(1), 1);
        Check.due("its queue", k.about(1, 3), 1);
        Check.due("taken", k.about(0, 0), 25);
    }

    private static void lostChangesNothingElse() {
        BudgetKernel k = one(3, 1, 30, 500);
        Check.events(k, 0, 25);
        k.tick();
        int[] before = new int[13];
        for (int what = 0; what <= 12; what++) {
            before[what] = k.about(0, what);
        }
        before[2] = 5;
        Check.events(k, 0, 5);
        Check.abouts("behind five lost ones", k, 0, before);
        k.ticks(99);
        Check.due("top halves of the taken ones alone", k.used(0, true, 0, 100) - k.used(0, false, 0, 100), 75);
        Check.due("all that were taken are handled", k.about(0, 1), 25);
        Check.due("delay of the last, of time 0", k.about(0, 10), 100);
    }

    private static void topsInARow() {
        Check.sentence("Otherwise it is taken: its top is added to the top halves that are open"
                + " (a row, each with its source, in the order of events; tops of 0 aside), and its time comes into the queue.");
        BudgetKernel k = new BudgetKernel();
        k.source(0, 2, 1, 1, 1, 500, 0);
        k.source(1, 1, 1, 1, 1, 500, 31);
        k.source(2, 3, 1, 1, 1, 500, 15);
        k.event(2);
        k.event(0);
        k.tick();
        k.event(1);
        k.event(2);
        k.event(0);
        Check.ticks("a higher one waits behind those before it", k, 12, 12, 10, 10, 11, 12, 12, 12, 10, 10, 21, 22, 20, 0);
    }

    /** 25 events of each source are taken at most, and no handler runs before the last top half. */
    private static void theRowIsFull() {
        BudgetKernel k = new BudgetKernel();
        for (int i = 0; i < 6; i++) {
            k.source(i, 1, 1, 1, 1, 500, i);
        }
        for (int i = 0; i < 26 * 6; i++) {
            Check.due("event " + i, k.event(i % 6), i < 25 * 6 ? 1 : 0);
        }
        for (int i = 0; i < 25 * 6; i++) {
            Check.due("top half " + i, k.tick(), 10 + i % 6);
        }
        Check.ticks("the handlers", k, 25, 24, 23, 22, 21, 20, 0);

        BudgetKernel longest = new BudgetKernel();
        for (int i = 0; i < 6; i++) {
            longest.source(i, 3, 1, 1, 1, 500, i);
            Check.events(longest, i, 26);
        }
        Check.due("450 ticks of top halves, 6 of handlers", longest.ticks(500), 456);
        for (int i = 0; i < 6; i++) {
            Check.due("top halves of " + i, longest.used(i, true, 75 * i, 75 * i + 75), 75);
            Check.due("handler of " + i, longest.used(i, false, 0, 450), 0);
        }
    }

    private static void topsOfZero() {
        BudgetKernel k = new BudgetKernel();
        k.source(0, 0, 1, 1, 30, 500, 0);
        k.source(1, 1, 1, 1, 30, 500, 1);
        Check.events(k, 0, 3);
        k.event(1);
        Check.events(k, 0, 1);
        Check.ticks("none of source 0", k, 11, 21, 20, 20, 20, 20, 0);
        Check.due("used with top halves", k.used(0, true, 0, 7), 4);
    }

    private static void timesInTheQueue() {
        BudgetKernel k = one(0, 1, 1, 10);
        k.event(0);
        k.ticks(3);
        k.event(0);
        k.ticks(4);
        k.event(0);
        Check.due("delay of the one of time 0", k.about(0, 10), 1);
        k.ticks(4);
        Check.due("the one of time 3 is handled at 11", k.about(0, 10), 8);
        k.ticks(10);
        Check.due("the one of time 7 is handled at 21", k.about(0, 10), 14);
    }
}
