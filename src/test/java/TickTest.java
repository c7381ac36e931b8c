/** Promise 5: tick. */
public final class TickTest {
    public static void main(String[] args) {
        everyAnswer();
        whatGoesFirst();
        aTopHalfInterrupts();
        theBudgetEnds();
        givenBackOnePeriodAfterItCouldBeSpent();
        sinceTheTickWhenAPeriodPassed();
        sinceTheQueueIsBusy();
        piecesOutOfOrder();
        growsTheLastOfThoseThatAreLeft();
        sixteenPieces();
        periodOne();
        tasksMiss();
        Check.end();
    }

    private static void everyAnswer() {
        Check.sentence("what ran: 0 nothing, 10 and a source for its top half, 20 and a source for its handler,"
                + " 30 and a base task.");
        for (int i = 0; i <= 5; i++) {
            BudgetKernel k = new BudgetKernel();
            k.source(i, 1, 1, 100, 1, 100, i);
            k.base(i, 100, 1, i);
            k.event(i);
            Check.ticks("number " + i, k, 10 + i, 20 + i, 30 + i, 0);
        }
        Check.sentence("A TICK");
    }

    private static void whatGoesFirst() {
        BudgetKernel k = new BudgetKernel();
        k.source(0, 0, 1, 500, 1, 500, 30);
        k.source(1, 1, 2, 500, 2, 500, 31);
        k.source(5, 0, 1, 500, 1, 500, 2);
        k.base(0, 500, 1, 3);
        k.base(2, 500, 1, 9);
        k.base(5, 500, 2, 4);
        k.event(5);
        k.event(0);
        k.event(1);
        Check.ticks("the order", k, 11, 21, 21, 20, 25, 32, 35, 35, 30, 0, 0);
    }

    private static void aTopHalfInterrupts() {
        BudgetKernel k = new BudgetKernel();
        k.source(0, 2, 3, 500, 3, 500, 9);
        k.source(1, 1, 1, 500, 1, 500, 1);
        k.event(0);
        Check.ticks("before", k, 10, 10, 20);
        Check.due("one tick of the first event is done", k.about(0, 11), 1);
        k.event(1);
        Check.ticks("interrupted", k, 11);
        Check.due("it stays done", k.about(0, 11), 1);
        Check.ticks("after", k, 20, 20, 21, 0);
        Check.due("delay of the interrupted one", k.about(0, 10), 6);
        Check.due("delay of the lower one", k.about(1, 10), 4);
        Check.due("nothing done of no event", k.about(0, 11), 0);
    }

    private static void theBudgetEnds() {
        BudgetKernel k = new BudgetKernel();
        k.source(4, 0, 5, 1, 2, 10, 9);
        k.base(1, 20, 1, 0);
        k.event(4);
        Check.ticks("the budget", k, 24, 24, 31, 0, 0, 0, 0, 0, 0, 0, 24, 24, 0, 0, 0, 0, 0, 0, 0, 0, 24, 31, 0);
        Check.due("handled at 21", k.about(4, 10), 21);
        Check.due("handled", k.about(4, 1), 1);
    }

    private static void givenBackOnePeriodAfterItCouldBeSpent() {
        BudgetKernel k = new BudgetKernel();
        k.source(0, 0, 1, 1, 3, 10, 9);
        k.ticks(4);
        k.event(0);
        k.event(0);
        Check.ticks("two events", k, 20, 20, 0);
        Check.pieces("one piece", k, 0, 1, 1, 14, 2);
        k.event(0);
        Check.ticks("a third event", k, 20);
        Check.pieces("busy anew is another piece", k, 0, 0, 2, 14, 2);
        k.ticks(5);
        Check.pieces("at 13", k, 0, 0, 2, 14, 2);
        k.tick();
        Check.pieces("at 14", k, 0, 2, 1, 17, 1);
        k.ticks(3);
        Check.pieces("at 17", k, 0, 3, 0, -1, 0);
    }

    private static void sinceTheTickWhenAPeriodPassed() {
        BudgetKernel k = new BudgetKernel();
        k.source(0, 0, 4, 1, 4, 10, 1);
        k.source(1, 0, 30, 1, 30, 500, 2);
        k.event(0);
        k.event(1);
        k.ticks(30);
        Check.ticks("starved for 30 ticks", k, 20);
        Check.pieces("since the tick", k, 0, 3, 1, 40, 1);
        Check.ticks("and on", k, 20);
        Check.pieces("each since its own tick", k, 0, 2, 2, 40, 1);

        BudgetKernel edge = new BudgetKernel();
        edge.source(0, 0, 4, 1, 4, 10, 1);
        edge.source(1, 0, 9, 1, 30, 500, 2);
        edge.event(0);
        edge.event(1);
        edge.ticks(9);
        Check.ticks("at 9", edge, 20);
        // Time 10 is reached in that tick, and the unit that could be spent since 0 is back.
        Check.pieces("9 is less than a period", edge, 0, 4, 0, -1, 0);
        Check.ticks("at 10", edge, 20);
        Check.pieces("10 is a period", edge, 0, 3, 1, 20, 1);
    }

    private static void sinceTheQueueIsBusy() {
        BudgetKernel k = new BudgetKernel();
        k.source(0, 0, 3, 1, 2, 10, 1);
        k.ticks(5);
        k.event(0);
        k.ticks(2);
        Check.pieces("two units since 5", k, 0, 0, 1, 15, 2);
        k.ticks(8);
        Check.pieces("left since 15", k, 0, 2, 0, -1, 0);
        k.tick();
        Check.pieces("15 is later than busy since 5", k, 0, 1, 1, 25, 1);
    }

    /** Keeps the lower source 0 from running, with a source 1 above it. */
    private static void blocked(BudgetKernel k, int n) {
        for (int i = 0; i < n; i++) {
            k.event(1);
            Check.due("blocked at " + k.time(), k.tick(), 21);
        }
    }

    /** At time 15: source 0 is busy since 5; a unit is left since 0, one since 10, the rest since 15. */
    private static BudgetKernel unitsOfThreeTimes(int budget) {
        BudgetKernel k = new BudgetKernel();
        k.source(0, 0, 1, 1, budget, 10, 1);
        k.source(1, 0, 1, 1, 30, 500, 2);
        k.event(0);
        k.ticks(5);
        for (int i = 0; i < 8; i++) {
            k.event(0);
        }
        k.ticks(budget - 2);
        Check.pieces("before 10", k, 0, 1, 2, 10, 1);
        blocked(k, 15 - k.time());
        Check.pieces("at 15", k, 0, budget, 0, -1, 0);
        return k;
    }

    private static void piecesOutOfOrder() {
        BudgetKernel k = unitsOfThreeTimes(4);
        Check.ticks("the one since 0, older than a period", k, 20);
        Check.pieces("since the tick", k, 0, 3, 1, 25, 1);
        Check.ticks("the one since 10", k, 20);
        Check.pieces("it comes later and is given back earlier", k, 0, 2, 2, 20, 1);
        Check.ticks("the two since 15, and none is left", k, 20, 20, 0);
        Check.pieces("at 20 the first of two pieces of one time", k, 0, 1, 2, 25, 1);
        blocked(k, 4);
        Check.pieces("at 24", k, 0, 1, 2, 25, 1);
        blocked(k, 1);
        Check.pieces("at 25 both are given back", k, 0, 4, 0, -1, 0);
    }

    /** What came last of the pieces that there are grows, also when a later one was given back. */
    private static void growsTheLastOfThoseThatAreLeft() {
        BudgetKernel k = unitsOfThreeTimes(3);
        Check.ticks("pieces of 25 and of 20", k, 20, 20);
        blocked(k, 3);
        Check.pieces("the one of 20 is given back", k, 0, 2, 1, 25, 1);
        Check.ticks("the one since 15", k, 20);
        Check.pieces("the one of 25 grows", k, 0, 1, 1, 25, 2);
    }

    private static void sixteenPieces() {
        BudgetKernel k = new BudgetKernel();
        k.source(0, 0, 1, 1, 30, 500, 1);
        for (int i = 0; i < 16; i++) {
            k.event(0);
            k.tick();
        }
        Check.pieces("sixteen", k, 0, 14, 16, 500, 1);
        k.event(0);
        k.tick();
        Check.pieces("a seventeenth grows the last", k, 0, 13, 16, 500, 1);
        k.ticks(483);
        Check.pieces("at 500", k, 0, 14, 15, 501, 1);
        k.ticks(14);
        Check.pieces("at 514", k, 0, 28, 1, 516, 2);
        k.ticks(1);
        Check.pieces("the last one's time is the later one", k, 0, 28, 1, 516, 2);
        k.ticks(1);
        Check.pieces("at 516", k, 0, 30, 0, -1, 0);
    }

    private static void periodOne() {
        BudgetKernel k = new BudgetKernel();
        k.source(0, 0, 3, 1, 1, 1, 1);
        k.event(0);
        Check.ticks("a unit each tick", k, 20, 20, 20, 0);
        Check.pieces("back at once", k, 0, 1, 0, -1, 0);
        Check.due("delay", k.about(0, 10), 3);
    }

    private static void tasksMiss() {
        BudgetKernel k = new BudgetKernel();
        k.source(0, 0, 30, 500, 1, 500, 1);
        k.source(1, 3, 1, 2000, 1, 500, 2);
        Check.due("admitted", k.base(0, 20, 4, 1), true);
        for (int i = 0; i < 6; i++) {
            k.event(1);
        }
        Check.ticks("a storm of tops", k, 11, 11, 11, 11, 11, 11, 11, 11, 11, 11, 11, 11, 11, 11, 11, 11, 11, 11);
        Check.ticks("the handler, then the task", k, 21, 30);
        Check.due("work left", k.task(0, 0), 3);
        Check.ticks("its period begins", k, 30);
        Check.due("missed", k.task(0, 1), 1);
        Check.due("the rest was dropped", k.task(0, 0), 3);
        Check.ticks("the rest of this period", k, 30, 30, 30, 0);
        Check.due("done", k.task(0, 2), 1);
    }
}
