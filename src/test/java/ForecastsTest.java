/** Promises 23 to 27: what would be. Each question is asked so that it must change nothing. */
public final class ForecastsTest {
    private static final int NONE = Run.NONE;
    private static final int LOWEST = Integer.MIN_VALUE;
    private static final int HIGHEST = Integer.MAX_VALUE;
    private static final Class<?> INDEX = Run.INDEX;
    private static final Class<?> ARGUMENT = Run.ARGUMENT;

    private ForecastsTest() {
    }

    public static void main(String[] args) {
        promise23RefusedOn();
        promise23Siblings();
        promise23WhatIsNotRefused();
        promise24Needs();
        promise24Siblings();
        promise24Bounds();
        promise24GreaterIsWorse();
        promise25IfEntitled();
        promise25WrongInputs();
        promise26IfPrice();
        promise26WrongInputs();
        promise27BestEntitled();
        promise27PaidBack();
        Run.end();
    }

    private static void order(Run run, int c, int... days) {
        for (int d : days) {
            run.call("order", c, d, true);
        }
    }

    private static void promise23RefusedOn() {
        Run run = new Run("promise 23");
        run.refused(INDEX, "refusedOn", 0).due(0, "come", 0, 0).asked(NONE, "refusedOn", 0);
        order(run, 0, 0, 1);
        run.asked(NONE, "refusedOn", 0);
        order(run, 0, 2);
        run.asked(2, "refusedOn", 0).due(249, "pay", 0, 249).asked(2, "refusedOn", 0).due(250, "pay", 0, 1);
        run.asked(NONE, "refusedOn", 0);
        order(run, 0, 39, 20);
        run.asked(20, "refusedOn", 0).due(3, "days", 10).asked(20, "refusedOn", 0).due(0, "days", 10);
        run.asked(20, "refusedOn", 0).due(0, "days", 1).asked(39, "refusedOn", 0).due(-250, "pay", 0, 250);
        run.asked(NONE, "refusedOn", 0).due(500, "set", 1, 499).asked(39, "refusedOn", 0);
        run.due(250, "set", 0, 249).asked(NONE, "refusedOn", 0).due(249, "set", 0, 250).due(0, "days", 19);
        run.asked(NONE, "refusedOn", 0).asked(2, "child", 0, 8);
        for (int c : new int[] {-1, 1, 12, LOWEST, HIGHEST}) {
            run.refused(INDEX, "refusedOn", c);
        }
    }

    private static void promise23Siblings() {
        Run run = new Run("promise 23, siblings");
        run.due(0, "come", 0, 0).due(1, "come", 0, 0).due(2, "come", 1, 0).due(500, "set", 1, 0);
        run.due(600, "pay", 1, 600).due(250, "pay", 2, 250);
        order(run, 0, 5, 6, 7);
        order(run, 1, 6);
        order(run, 2, 5, 9);
        run.asked(5, "refusedOn", 0).asked(NONE, "refusedOn", 1).asked(9, "refusedOn", 2);
        run.due(600, "share", 0, true).asked(7, "refusedOn", 0).asked(6, "refusedOn", 1).asked(9, "refusedOn", 2);
        run.due(750, "pay", 1, 150).asked(7, "refusedOn", 0).asked(NONE, "refusedOn", 1);
        run.due(1000, "pay", 1, 250).asked(NONE, "refusedOn", 0).asked(NONE, "refusedOn", 1).asked(9, "refusedOn", 2);
    }

    private static void promise23WhatIsNotRefused() {
        // What is unsuited or free is not refused, and costs nothing.
        Run run = new Run("promise 23, not refused");
        run.due(0, "come", 0, 1).due(500, "set", 1, 0).due(250, "pay", 0, 250);
        order(run, 0, 3, 4, 5);
        run.asked(4, "refusedOn", 0).due(0, "menu", 3, 1).asked(5, "refusedOn", 0).due(0, "menu", 4, 3);
        run.asked(NONE, "refusedOn", 0).due(1, "menu", 3, 2).asked(5, "refusedOn", 0).due(3, "menu", 4, 0);
        run.due(0, "entitle", 0, 3, 4).asked(NONE, "refusedOn", 0).due(0, "entitle", 0, 0, NONE);
        run.asked(4, "refusedOn", 0).due(0, "entitle", 0, 4, 39).asked(NONE, "refusedOn", 0);
    }

    private static void promise24Needs() {
        Run run = new Run("promise 24");
        run.asked(NONE, "needs", 0).due(0, "come", 3, 0).asked(0, "needs", 3).asked(NONE, "needs", 0);
        order(run, 0, 0, 1);
        run.asked(0, "needs", 3);
        order(run, 0, 2);
        run.asked(300, "needs", 3);
        order(run, 0, 39);
        run.asked(500, "needs", 3).due(1, "pay", 0, 1).asked(500, "needs", 3).due(100, "pay", 0, 99);
        run.asked(400, "needs", 3).due(0, "pay", 0, -100).due(500, "set", 1, 499).asked(600, "needs", 3);
        run.due(499, "set", 1, 500).due(2, "days", 2).asked(500, "needs", 3).due(0, "days", 1).asked(300, "needs", 3);
        run.asked(39, "refusedOn", 0).due(-200, "pay", 0, 300).asked(0, "needs", 3).due(1, "days", 37);
        run.asked(0, "needs", 3).asked(NONE, "needs", 4);
        for (int f : new int[] {-1, 5, LOWEST, HIGHEST}) {
            run.refused(INDEX, "needs", f);
        }
    }

    private static void promise24Siblings() {
        Run run = new Run("promise 24, siblings");
        run.due(0, "come", 1, 0).due(1, "come", 2, 0).due(2, "come", 2, 0).due(9999, "pay", 0, 9999);
        order(run, 2, 0, 1, 2);
        run.asked(NONE, "needs", 2).asked(0, "needs", 1).due(0, "share", 2, true).asked(300, "needs", 2);
        run.due(100, "pay", 1, 100).asked(200, "needs", 2).due(249, "pay", 2, 249).asked(200, "needs", 2);
        run.due(250, "pay", 2, 1).asked(0, "needs", 2).due(0, "pay", 2, -250).due(100, "share", 2, false);
        run.asked(NONE, "needs", 2);
    }

    private static void promise24Bounds() {
        Run run = new Run("promise 24, bounds");
        run.due(0, "come", 0, 0).due(250, "set", 0, 500).due(500, "set", 1, 0);
        for (int d = 0; d < 40; d++) {
            run.due(1, "order", 0, d, true);
        }
        run.asked(20000, "needs", 0).due(500, "set", 0, 501).asked(NONE, "needs", 0).due(40, "pay", 0, 40);
        run.asked(20000, "needs", 0).due(139, "pay", 0, 99).asked(20000, "needs", 0).due(140, "pay", 0, 1);
        run.asked(19900, "needs", 0).due(501, "set", 0, 999).due(0, "set", 1, 9999).asked(NONE, "needs", 0);
    }

    private static void promise24GreaterIsWorse() {
        // With 400 for child 0 it would pay for child 1, and could not pay for itself on day 4.
        Run run = new Run("promise 24, greater is worse");
        run.due(500, "set", 1, 250).due(0, "come", 0, 0).due(1, "come", 0, 0).due(2, "come", 0, 0);
        run.due(0, "share", 0, true).due(1, "order", 1, 0, true).due(1, "days", 1).due(350, "pay", 2, 350);
        order(run, 1, 1);
        order(run, 2, 2);
        order(run, 0, 3, 4);
        run.asked(300, "needs", 0).due(400, "pay", 0, 400).asked(4, "refusedOn", 0).asked(100, "needs", 0);
    }

    private static Run twoWerePaidByASibling(String title) {
        Run run = new Run(title);
        run.due(0, "come", 0, 0).due(1, "come", 0, 0).due(0, "share", 0, true).due(500, "set", 1, 0);
        run.due(600, "pay", 1, 600).due(1, "order", 0, 0, true).due(1, "order", 0, 1, true);
        run.due(1, "order", 0, 2, true).due(1, "days", 1).due(250, "set", 0, 300).due(1, "days", 1);
        return run.due(0, "days", 1);
    }

    private static void promise25IfEntitled() {
        Run run = twoWerePaidByASibling("promise 25");
        run.asked(550, "ifEntitled", 0, 0, 39).asked(250, "ifEntitled", 0, 0, 0).asked(300, "ifEntitled", 0, 1, 1);
        run.asked(300, "ifEntitled", 0, 1, 39).asked(0, "ifEntitled", 0, 2, 39).asked(0, "ifEntitled", 0, 5, NONE);
        run.asked(0, "ifEntitled", 1, 0, 39).asked(0, "ifEntitled", 0, 39, 39).due(550, "entitle", 0, 0, 39);
        run.asked(-300, "ifEntitled", 0, 1, 1).asked(-600, "ifEntitled", 0, 5, NONE);
        run.asked(-600, "ifEntitled", 0, 2, 39).asked(0, "ifEntitled", 0, 0, 39).asked(0, "ifEntitled", 0, 0, 1);
        run.due(300, "set", 0, 1).asked(-2, "ifEntitled", 0, 2, 2).due(-1, "entitle", 0, 1, 1);
        run.asked(0, "ifEntitled", 0, 0, 0).asked(1, "ifEntitled", 0, 0, 1).asked(-1, "ifEntitled", 0, 39, NONE);
    }

    private static void promise25WrongInputs() {
        Run run = twoWerePaidByASibling("promise 25, wrong");
        for (int c : new int[] {-1, 2, 12, LOWEST, HIGHEST}) {
            run.refused(INDEX, "ifEntitled", c, 0, 0).refused(INDEX, "ifEntitled", c, 0, 40);
            run.refused(INDEX, "ifEntitled", c, 40, NONE);
        }
        for (int from : new int[] {-1, 40, LOWEST, HIGHEST}) {
            run.refused(INDEX, "ifEntitled", 0, from, 39).refused(INDEX, "ifEntitled", 0, from, NONE);
            run.refused(INDEX, "ifEntitled", 0, from, from).refused(INDEX, "ifEntitled", 0, from, -2);
        }
        for (int to : new int[] {-2, 40, LOWEST, HIGHEST}) {
            run.refused(ARGUMENT, "ifEntitled", 0, 0, to).refused(ARGUMENT, "ifEntitled", 0, 39, to);
        }
        run.refused(ARGUMENT, "ifEntitled", 0, 5, 4).refused(ARGUMENT, "ifEntitled", 0, 39, 38);
        run.refused(ARGUMENT, "ifEntitled", 0, 1, 0);
    }

    private static void promise26IfPrice() {
        Run run = new Run("promise 26");
        run.asked(0, "ifPrice", 1).due(0, "come", 0, 0).due(1000, "pay", 0, 1000).due(500, "set", 1, 0);
        order(run, 0, 0, 1, 2, 3, 4, 5, 6, 7, 8, 9);
        run.asked(4, "ifPrice", 250).asked(10, "ifPrice", 100).asked(10, "ifPrice", 1).asked(1, "ifPrice", 999);
        run.asked(2, "ifPrice", 334).asked(3, "ifPrice", 333).asked(2, "ifPrice", 500).asked(1, "ifPrice", 501);
        run.due(2, "days", 2).asked(2, "ifPrice", 250).asked(5, "ifPrice", 100).asked(8, "ifPrice", 62);
        run.asked(7, "ifPrice", 63).due(0, "entitle", 0, 9, 9).asked(3, "ifPrice", 250).asked(1, "ifPrice", 999);
        run.due(1, "come", 4, 1).due(999, "pay", 1, 999).due(1, "order", 1, 39, true).asked(2, "ifPrice", 999);
        run.due(0, "menu", 39, 1).asked(1, "ifPrice", 999).due(1, "menu", 39, 0).due(4, "days", 38);
        run.asked(0, "ifPrice", 250).asked(0, "ifPrice", 1).asked(250, "setting", 0);
    }

    private static void promise26WrongInputs() {
        Run run = twoWerePaidByASibling("promise 26, wrong");
        for (int price : new int[] {0, -1, 1000, LOWEST, HIGHEST}) {
            run.refused(ARGUMENT, "ifPrice", price);
        }
        run.asked(0, "ifPrice", 1).asked(0, "ifPrice", 999);
    }

    private static void promise27BestEntitled() {
        Run run = new Run("promise 27");
        run.asked(NONE, "bestEntitled").due(0, "come", 0, 0).due(1, "come", 1, 0).due(2, "come", 2, 1);
        run.due(500, "set", 1, 0).asked(0, "bestEntitled");
        order(run, 0, 5);
        order(run, 1, 5, 6, 7);
        order(run, 2, 5, 6, 7);
        run.asked(1, "bestEntitled");
        order(run, 2, 8);
        run.asked(2, "bestEntitled").due(250, "pay", 2, 250).asked(1, "bestEntitled").due(0, "menu", 5, 1);
        run.asked(1, "bestEntitled").due(0, "entitle", 1, 0, 39).asked(2, "bestEntitled");
        run.due(0, "entitle", 1, 5, 5).asked(1, "bestEntitled").due(2, "days", 40).asked(0, "bestEntitled");
    }

    private static void promise27PaidBack() {
        // What would be paid back to child 0 would serve its sibling, if they shared.
        Run run = new Run("promise 27, paid back");
        run.due(500, "set", 1, 1000).due(0, "come", 0, 0).due(1, "come", 0, 0).due(2, "come", 1, 0);
        order(run, 0, 0, 1, 2, 3);
        run.due(4, "days", 4).due(0, "pay", 0, 1000).due(1000, "set", 1, 0).due(0, "share", 0, true);
        order(run, 1, 5, 6, 7, 8);
        order(run, 2, 5, 6);
        run.asked(0, "bestEntitled").due(0, "share", 0, false).asked(1, "bestEntitled").due(0, "share", 0, true);
        order(run, 1, 9);
        run.asked(1, "bestEntitled");
    }
}
