/** Promise 11: floor. */
public final class FloorTest {
    public static void main(String[] args) {
        Check.sentence("What SOURCES(span) leaves of span ticks, 0 at least."
                + " IllegalArgumentException when span is not 0 .. 100000.");
        BudgetKernel k = new BudgetKernel();
        for (int span : new int[] {-1, 100001, Integer.MIN_VALUE, Integer.MAX_VALUE}) {
            Check.dueThrow("floor " + span, IllegalArgumentException.class, () -> k.floor(span));
        }
        Check.due("no sources, no span", k.floor(0), 0);
        Check.due("no sources, the greatest span", k.floor(100000), 100000);
        k.source(0, 1, 3, 20, 2, 10, 5);
        Check.due("no span", k.floor(0), 0);
        // 20: (2 + 1) * 2 + (1 + 1) * 1 = 8; 21: (3 + 1) * 2 + (2 + 1) * 1 = 11.
        Check.due("20", k.floor(20), 12);
        Check.due("21", k.floor(21), 10);
        Check.due("5: one too many are taken", k.floor(5), 0);
        Check.due("6: just nothing", k.floor(6), 0);
        Check.due("7", k.floor(7), 1);
        k.source(1, 2, 2, 30, 4, 15, 9);
        // 100: 11 * 2 + 6 * 1 + 8 * 4 + 5 * 2 = 70.
        Check.due("two sources", k.floor(100), 30);
        Check.due("a base task", k.base(0, 2000, 100, 0), true);
        Check.due("base tasks do not count", k.floor(100), 30);
        k.event(0);
        k.ticks(5);
        Check.due("nor does what runs", k.floor(100), 30);
        BudgetKernel heavy = new BudgetKernel();
        for (int i = 0; i < 6; i++) {
            heavy.source(i, 3, 30, 1, 30, 1, i);
        }
        Check.due("0 at least", heavy.floor(100000), 0);
        Check.end();
    }
}
