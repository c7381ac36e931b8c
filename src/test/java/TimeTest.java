/** Promise 12: time. */
public final class TimeTest {
    public static void main(String[] args) {
        Check.sentence("THE TIME.");
        BudgetKernel k = new BudgetKernel();
        Check.due("at first", k.time(), 0);
        k.source(0, 1, 1, 100, 1, 100, 1);
        Check.due("a base task", k.base(0, 500, 1, 1), true);
        k.event(0);
        k.about(0, 0);
        k.task(0, 0);
        k.bound(0);
        k.floor(50);
        k.used(0, true, 0, 0);
        Check.due("only ticks move it", k.time(), 0);
        k.tick();
        Check.due("a tick", k.time(), 1);
        k.ticks(0);
        Check.due("no ticks", k.time(), 1);
        k.ticks(499);
        Check.due("many ticks", k.time(), 500);
        Check.dueThrow("too many ticks", IllegalArgumentException.class, () -> k.ticks(501));
        Check.due("a call that throws does not move it", k.time(), 500);
        for (int i = 0; i < 490; i++) {
            k.ticks(500);
        }
        Check.due("as far as 512 calls go", k.time(), 245500);
        Check.end();
    }
}
