/** The terms' pieces: of one time, of several, sixteen and one more. */
public final class PiecesTest {
    public static void main(String[] args) {
        sameTime();
        sameSource();
        anotherTime();
        backToAnEarlierTime();
        sixteen();
        theSeventeenthIsLater();
        theSeventeenthIsEarlier();
        theSeventeenthIsOfTheSameTime();
        sixteenAgain();
        thirtyInSixteen();
        theFirstOfTheLeast();
        Check.end();
    }

    private static BudgetKernel one(int cost, int budget, int period) {
        BudgetKernel k = new BudgetKernel();
        k.source(0, 0, cost, 1, budget, period, 7);
        return k;
    }

    /** Each event finds an empty queue, so each tick's unit has a time of its own. */
    private static void piecesOfOne(BudgetKernel k, int n) {
        for (int i = 0; i < n; i++) {
            k.event(0);
            k.tick();
        }
    }

    private static void sameTime() {
        Check.sentence("If the piece that came last is of the same time (and of the same source), it grows by 1");
        BudgetKernel k = one(3, 10, 50);
        k.event(0);
        k.event(0);
        for (int i = 1; i <= 6; i++) {
            k.tick();
            Check.pieces("unit " + i, k, 0, 10 - i, 1, 50, i);
        }
    }

    private static void sameSource() {
        BudgetKernel k = one(2, 10, 50);
        k.source(1, 0, 1, 1, 10, 50, 8);
        k.event(0);
        k.tick();
        k.event(0);
        k.event(1);
        k.ticks(4);
        Check.pieces("its own, with another one's between", k, 0, 6, 1, 50, 4);
        Check.pieces("the other one's", k, 1, 9, 1, 51, 1);

        BudgetKernel alike = one(1, 10, 50);
        alike.source(1, 0, 1, 1, 10, 50, 8);
        alike.event(0);
        alike.event(1);
        alike.ticks(2);
        Check.pieces("of one time, of source 0", alike, 0, 9, 1, 50, 1);
        Check.pieces("of one time, of source 1", alike, 1, 9, 1, 50, 1);
    }

    private static void anotherTime() {
        Check.sentence("otherwise there is a new one");
        BudgetKernel k = one(1, 10, 50);
        Check.pieces("none at first", k, 0, 10, 0, -1, 0);
        piecesOfOne(k, 1);
        Check.pieces("the first one", k, 0, 9, 1, 50, 1);
        piecesOfOne(k, 1);
        Check.pieces("one tick later", k, 0, 8, 2, 50, 1);
        k.ticks(48);
        Check.pieces("the first one is back", k, 0, 9, 1, 51, 1);
        k.tick();
        Check.pieces("none again", k, 0, 10, 0, -1, 0);
    }

    /**
     * At 21: source 0 with 17 units, 16 of them left since 0 and one since 20, a period of 20, and as
     * many events as told in a queue that is busy since 1.
     */
    private static BudgetKernel oldUnits(int events) {
        BudgetKernel k = one(1, 17, 20);
        k.source(1, 0, 20, 1, 30, 500, 8);
        k.event(0);
        k.tick();
        Check.events(k, 0, events);
        k.event(1);
        k.ticks(20);
        Check.pieces("at 21", k, 0, 17, 0, -1, 0);
        return k;
    }

    /** Units since 0 are older than a period, so each is of its tick; the one since 20 comes last. */
    private static void backToAnEarlierTime() {
        BudgetKernel k = one(1, 3, 20);
        k.source(1, 0, 20, 1, 30, 500, 8);
        k.event(0);
        k.tick();
        Check.events(k, 0, 3);
        k.event(1);
        k.ticks(20);
        k.ticks(2);
        Check.pieces("two of their ticks", k, 0, 1, 2, 41, 1);
        k.tick();
        Check.pieces("an earlier time is another time, too", k, 0, 0, 3, 40, 1);
    }

    private static void sixteen() {
        Check.sentence("if there are 16 already, the one that came last grows by 1, and gets the later one of both times.");
        BudgetKernel k = one(1, 30, 500);
        for (int i = 1; i <= 16; i++) {
            piecesOfOne(k, 1);
            Check.pieces("piece " + i, k, 0, 30 - i, i, 500, 1);
        }
        piecesOfOne(k, 1);
        Check.pieces("not a seventeenth", k, 0, 13, 16, 500, 1);
    }

    private static void theSeventeenthIsLater() {
        BudgetKernel k = one(1, 30, 500);
        piecesOfOne(k, 15);
        k.ticks(5);
        piecesOfOne(k, 1);
        k.ticks(5);
        piecesOfOne(k, 1);
        Check.pieces("units of 0 to 14, 20 and 26", k, 0, 13, 16, 500, 1);
        k.ticks(500 + 14 - k.time());
        Check.pieces("at 514", k, 0, 28, 1, 526, 2);
        k.ticks(11);
        Check.pieces("at 525: the time of the sixteenth is past", k, 0, 28, 1, 526, 2);
        k.tick();
        Check.pieces("at 526", k, 0, 30, 0, -1, 0);
    }

    private static void theSeventeenthIsEarlier() {
        BudgetKernel k = oldUnits(17);
        Check.sameTicks("16 old units", k, 16, 20);
        Check.pieces("of the ticks 21 to 36", k, 0, 1, 16, 41, 1);
        Check.ticks("the one since 20, which would be back at 40", k, 20);
        Check.pieces("not at 40", k, 0, 0, 16, 41, 1);
        k.ticks(40 - k.time());
        Check.pieces("at 40", k, 0, 0, 16, 41, 1);
        k.ticks(15);
        Check.pieces("at 55", k, 0, 15, 1, 56, 2);
        k.tick();
        Check.pieces("at 56", k, 0, 17, 0, -1, 0);
    }

    private static void theSeventeenthIsOfTheSameTime() {
        BudgetKernel k = one(1, 30, 500);
        piecesOfOne(k, 15);
        Check.events(k, 0, 2);
        k.ticks(2);
        Check.pieces("16 pieces of 17 units", k, 0, 13, 16, 500, 1);
        k.ticks(500 + 14 - k.time());
        Check.pieces("at 514", k, 0, 28, 1, 515, 2);
        k.tick();
        Check.pieces("at 515", k, 0, 30, 0, -1, 0);
    }

    private static void sixteenAgain() {
        BudgetKernel k = one(1, 30, 40);
        piecesOfOne(k, 16);
        k.ticks(24);
        Check.pieces("at 40 the first one is back", k, 0, 15, 15, 41, 1);
        piecesOfOne(k, 1);
        Check.pieces("a new one, and one is back at 41", k, 0, 15, 15, 42, 1);
        Check.events(k, 0, 1);
        k.tick();
        Check.pieces("again at 42", k, 0, 15, 15, 43, 1);
        k.ticks(13);
        Check.pieces("at 55 the two that came last", k, 0, 28, 2, 80, 1);
    }

    private static void thirtyInSixteen() {
        BudgetKernel k = one(1, 30, 500);
        piecesOfOne(k, 30);
        Check.pieces("all spent", k, 0, 0, 16, 500, 1);
        k.event(0);
        Check.ticks("not ready", k, 0);
        k.ticks(500 + 14 - k.time());
        Check.due("handled, as units came back", k.about(0, 1), 31);
        Check.pieces("the last one has 15, the new one came behind it", k, 0, 14, 2, 529, 15);
        k.ticks(15);
        Check.pieces("at 529", k, 0, 29, 1, 1000, 1);
    }

    private static void theFirstOfTheLeast() {
        Check.sentence("8 the time at which the first one of those with the least time is given back"
                + " (-1 without one), 9 how much that is");
        BudgetKernel k = new BudgetKernel();
        k.source(0, 0, 1, 1, 5, 10, 7);
        k.source(1, 0, 1, 1, 30, 500, 8);
        Check.pieces("without one", k, 0, 5, 0, -1, 0);
        k.event(0);
        k.ticks(5);
        Check.events(k, 0, 9);
        k.ticks(3);
        Check.pieces("one of 10, and three of 15", k, 0, 1, 2, 10, 1);
        Check.events(k, 1, 7);
        k.ticks(7);
        Check.due("at 15", k.time(), 15);
        Check.ticks("one since 0, one since 10, three since 15", k, 20, 20, 20, 20);
        Check.pieces("25 with 1, 20 with 1, 25 with 2", k, 0, 1, 3, 20, 1);
        k.event(1);
        Check.ticks("till 20", k, 21);
        Check.pieces("of those of 25 the first", k, 0, 2, 2, 25, 1);
    }
}
