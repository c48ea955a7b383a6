/** The boundary cases of promises 23 to 27, what would be. */
final class ForecastBoundaries extends Boundaries {
    private ForecastBoundaries() {
    }

    static void testAll() {
        firstRefusedDay();
        onlyDaysGoBy();
        neverRefused();
        refusedOnOfNobody();
        multiplesOfAHundred();
        upToTwentyThousand();
        smallestThoughGreaterIsWorse();
        anyChildOfTheFamily();
        noAmountIsEnough();
        needsOfNoFamily();
        daysOfEntitlement();
        asEntitleReturns();
        ifNobodyIsEntitled();
        ifEntitledOutOfRange();
        prices();
        servedFromTodayOn();
        priceOutOfRange();
        fewestRefused();
        onAllDays();
        lowestOfSeveral();
        bestOfNone();
        nothingToTest();
    }

    private static void nothingToTest() {
        noBoundary(23, "Tells on which day a child is refused.", "- c: child");
        noBoundary(24, "Tells what a family needs.", "- f: family");
        noBoundary(25, "Tells what entitlement would bring.", "- c: child");
        noBoundary(26, "Tells how many meals there would be by another price.");
        noBoundary(27, "Finds the child that would be entitled best.");
    }

    // Promise 23

    private static void firstRefusedDay() {
        Run run = children(promise(23, "Returns the first day, from today on, on which it would be refused,"), 0, 0, 0);
        run.due(500, "set", 1, 0).due(1, "order", 0, 39, true).asked(39, "refusedOn", 0).due(1, "order", 0, 38, true);
        run.asked(38, "refusedOn", 0).due(1, "order", 0, 0, true).asked(0, "refusedOn", 0).due(1, "order", 1, 1, true);
        run.asked(1, "refusedOn", 1).due(0, "days", 1).asked(38, "refusedOn", 0).asked(1, "refusedOn", 1);
        run.due(0, "days", 1).asked(NONE, "refusedOn", 1).due(0, "days", 36).asked(38, "refusedOn", 0);
        run.due(0, "days", 1).asked(39, "refusedOn", 0).due(250, "pay", 0, 250).asked(NONE, "refusedOn", 0);
        run.due(0, "pay", 0, -250).due(0, "days", 1).asked(NONE, "refusedOn", 0).asked(NONE, "refusedOn", 2);
        // Served on the first day, and refused only on the last one.
        Run last = children(run.another(), 4).due(250, "set", 0, 13).due(500, "set", 1, 13 * 39);
        ordersFromTo(last, 0, 0, 39).asked(39, "refusedOn", 0).due(13 * 39, "set", 1, 13 * 40).asked(NONE, "refusedOn", 0);
        last.due(13 * 40, "set", 1, 13 * 40 - 1).asked(39, "refusedOn", 0).due(13 * 40 - 1, "set", 1, 12);
        last.asked(0, "refusedOn", 0).due(12, "set", 1, 13).asked(1, "refusedOn", 0);
    }

    private static void onlyDaysGoBy() {
        Run run = children(promise(23, "if only days went by;"), 0, 0).due(2, "come", 0, 1).due(500, "set", 1, 0);
        run.due(500, "pay", 1, 500).due(500, "share", 0, true);
        // On days 0 and 1 child 2 takes all that child 1 has, until its menus do not suit it.
        orders(orders(orders(run, 0, 2, 3), 1, 3), 2, 0, 1).asked(2, "refusedOn", 0).asked(3, "refusedOn", 1);
        run.asked(NONE, "refusedOn", 2).due(0, "menu", 0, 1).asked(3, "refusedOn", 0).asked(3, "refusedOn", 1);
        run.due(0, "menu", 1, 3).asked(NONE, "refusedOn", 0).asked(3, "refusedOn", 1);
        run.due(0, "entitle", 0, 3, 3).asked(NONE, "refusedOn", 1).due(0, "entitle", 0, 2, 2).asked(NONE, "refusedOn", 1);
        run.due(0, "entitle", 0, 4, 39).asked(3, "refusedOn", 1).due(500, "share", 0, false).asked(2, "refusedOn", 0);
        run.asked(NONE, "refusedOn", 1).asked(NONE, "refusedOn", 2);
    }

    private static void neverRefused() {
        Run run = children(promise(23, "NONE if there is none."), 0, 1).asked(NONE, "refusedOn", 0);
        orders(run, 0, 0, 1).asked(NONE, "refusedOn", 0).due(500, "set", 1, 499).asked(1, "refusedOn", 0);
        run.due(1, "pay", 0, 1).asked(NONE, "refusedOn", 0).due(0, "pay", 0, -1).due(1, "days", 2);
        run.asked(NONE, "refusedOn", 0).asked(1, "child", 0, 8).due(0, "days", 38).asked(NONE, "refusedOn", 0);
    }

    private static void refusedOnOfNobody() {
        Run run = promise(23, "Throws IndexOutOfBoundsException if there is no such child").refused(INDEX, "refusedOn", 0);
        run.due(0, "come", 0, 0).asked(NONE, "refusedOn", 0).refusedEach(INDEX, values(-1, 1, 12), "refusedOn", EACH);
        for (int c = 1; c < 12; c++) {
            run.due(c, "come", 0, 0);
        }
        run.asked(NONE, "refusedOn", 11).refusedEach(INDEX, values(-1, 12, LOWEST, HIGHEST), "refusedOn", EACH);
    }

    // Promise 24

    private static void multiplesOfAHundred() {
        Run run = children(promise(24, "Returns the smallest amount, a multiple of 100"), 2).due(500, "set", 1, 0);
        run.due(1, "order", 0, 39, true).due(250, "set", 0, 1).asked(100, "needs", 2);
        int before = 1;
        for (int price : values(99, 100, 101, 199, 200, 201, 900, 901, 999)) {
            run.due(before, "set", 0, price).asked((price + 99) / 100 * 100, "needs", 2);
            before = price;
        }
        run.due(99, "pay", 0, 99).asked(900, "needs", 2).due(98, "pay", 0, -1).asked(1000, "needs", 2);
    }

    private static void upToTwentyThousand() {
        Run run = children(promise(24, "from 0 to 20000,"), 2).asked(0, "needs", 2).due(500, "set", 1, 0);
        ordersFromTo(run, 0, 0, 39).due(250, "set", 0, 500).asked(20000, "needs", 2).due(500, "set", 0, 501);
        run.asked(NONE, "needs", 2).due(39, "pay", 0, 39).asked(NONE, "needs", 2).due(40, "pay", 0, 1);
        run.asked(20000, "needs", 2).due(140, "pay", 0, 100).asked(19900, "needs", 2).due(0, "set", 1, 20);
        run.asked(19900, "needs", 2).due(20, "set", 1, 9999).asked(10000, "needs", 2).due(501, "set", 0, 1);
        run.asked(0, "needs", 2).due(1, "set", 0, 999).asked(NONE, "needs", 2).due(10139, "pay", 0, 9999);
        run.asked(19900, "needs", 2);
    }

    private static void smallestThoughGreaterIsWorse() {
        // With 400 or more child 0 would be charged for child 1, and have too little for itself on the last day.
        Run run = children(promise(24, "Returns the smallest amount, a multiple of 100"), 0, 0, 0).due(500, "set", 1, 250);
        run.due(0, "share", 0, true).due(1, "order", 1, 0, true).due(1, "days", 1).due(350, "pay", 2, 350);
        orders(orders(orders(run, 1, 1), 2, 2), 0, 38, 39).asked(300, "needs", 0).due(400, "pay", 0, 400);
        run.asked(39, "refusedOn", 0);
    }

    private static void anyChildOfTheFamily() {
        Run run = promise(24, "with which no child of the family would be refused any more, if it was paid in to its lowest child"
                + " now, and only days went by;");
        children(run, 0, 1, 0, 1, 1).due(500, "set", 1, 0).due(0, "share", 1, true);
        run.due(1, "order", 0, 0, true).asked(0, "needs", 1).asked(300, "needs", 0).due(1, "order", 4, 39, true);
        run.asked(300, "needs", 1).due(1, "order", 1, 1, true).asked(500, "needs", 1).due(1, "order", 3, 2, true);
        run.asked(800, "needs", 1).due(249, "pay", 4, 249).asked(800, "needs", 1).due(250, "pay", 4, 1);
        run.asked(500, "needs", 1).due(250, "share", 1, false).asked(NONE, "needs", 1).due(0, "entitle", 3, 2, 2);
        run.asked(300, "needs", 1).due(2, "order", 2, 39, true).asked(NONE, "needs", 0).due(0, "share", 0, true);
        run.asked(500, "needs", 0).due(0, "days", 1).asked(300, "needs", 0);
        // A meal that was refused before is none that would be refused.
        run.due(1, "days", 2).asked(0, "needs", 1);
    }

    private static void noAmountIsEnough() {
        String sentence = "NONE if there is none, or the family has no children.";
        Run run = promise(24, sentence).askedEach(NONE, values(0, 1, 2, 3, 4), "needs", EACH);
        children(run, 0, 4, 4).asked(0, "needs", 0).askedEach(NONE, values(1, 2, 3), "needs", EACH).asked(0, "needs", 4);
        // Only child 2 needs something, and family 4 does not share.
        run.due(500, "set", 1, 0).due(1, "order", 2, 39, true).asked(NONE, "needs", 4).due(0, "share", 4, true);
        run.asked(300, "needs", 4).due(0, "share", 4, false).due(250, "pay", 2, 250).asked(0, "needs", 4);
        run.due(249, "pay", 2, -1).asked(NONE, "needs", 4).due(0, "days", 39).asked(NONE, "needs", 4).due(0, "days", 1);
        run.asked(0, "needs", 4).asked(NONE, "needs", 3);
    }

    private static void needsOfNoFamily() {
        Run run = promise(24, "Throws IndexOutOfBoundsException if there is no such family").asked(NONE, "needs", 0);
        run.asked(NONE, "needs", 4).refusedEach(INDEX, values(-1, 5, LOWEST, HIGHEST), "needs", EACH);
        children(run, 0, 4).asked(0, "needs", 0).asked(0, "needs", 4).refusedEach(INDEX, values(-1, 5), "needs", EACH);
    }

    // Promise 25

    /** Child 0 was charged on days 0 and 39, once by 100 to itself and once by 200 to child 1; it is day 40. */
    private static Run charged(Run run) {
        orders(children(run, 0, 0), 0, 0, 39).due(250, "set", 0, 100).due(500, "set", 1, 100).due(200, "pay", 1, 200);
        return run.due(200, "share", 0, true).due(1, "days", 1).due(100, "set", 0, 200).due(1, "days", 39);
    }

    private static void daysOfEntitlement() {
        Run run = charged(promise(25, "from: first day"));
        run.asked(300, "ifEntitled", 0, 0, 39).asked(200, "ifEntitled", 0, 1, 39).asked(200, "ifEntitled", 0, 39, 39);
        Run last = charged(promise(25, "to: last day, or NONE")).asked(100, "ifEntitled", 0, 0, 0);
        last.asked(100, "ifEntitled", 0, 0, 38).asked(300, "ifEntitled", 0, 0, 39).asked(0, "ifEntitled", 0, 0, NONE);
        last.asked(0, "ifEntitled", 0, 39, NONE).asked(0, "ifEntitled", 0, 1, 38).asked(0, "ifEntitled", 0, 38, 38);
    }

    private static void asEntitleReturns() {
        Run run = charged(promise(25, "Returns what entitle(c, from, to) would return.")).asked(0, "ifEntitled", 1, 0, 39);
        int[][] ranges = {{0, 0}, {0, 39}, {1, 39}, {39, 39}, {5, NONE}, {0, 38}, {0, NONE}, {1, 38}, {0, 39}};
        int[] due = {100, 200, -200, 0, -200, 200, -200, 0, 400};
        for (int i = 0; i < due.length; i++) {
            run.asked(due[i], "ifEntitled", 0, ranges[i][0], ranges[i][1]);
            run.did(due[i], "entitle", 0, ranges[i][0], ranges[i][1]).asked(0, "ifEntitled", 0, ranges[i][0], ranges[i][1]);
        }
        // Nothing is settled before the day has gone by.
        Run early = orders(children(run.another(), 0), 0, 0).asked(0, "ifEntitled", 0, 0, 39).due(1, "days", 1);
        early.asked(250, "ifEntitled", 0, 0, 39);
    }

    private static void ifNobodyIsEntitled() {
        Run run = promise(25, "Throws IndexOutOfBoundsException if there is no such child, or from is no day");
        run.refused(INDEX, "ifEntitled", 0, 0, 0);
        children(run, 0, 0).asked(0, "ifEntitled", 1, 39, 39);
        run.refusedEach(INDEX, values(-1, 2, 12, LOWEST, HIGHEST), "ifEntitled", EACH, 0, 0);
        run.refusedEach(INDEX, values(-1, 40, LOWEST, HIGHEST), "ifEntitled", 0, EACH, 39);
        run.refusedEach(INDEX, values(-1, 40, LOWEST, HIGHEST), "ifEntitled", 0, EACH, NONE);
        run.refusedEach(INDEX, values(-1, 40, LOWEST, HIGHEST), "ifEntitled", 0, EACH, EACH);
        run.refusedEach(INDEX, values(-1, 2), "ifEntitled", EACH, 0, 40).refused(INDEX, "ifEntitled", 0, 40, -2);
    }

    private static void ifEntitledOutOfRange() {
        Run run = children(promise(25, "Throws IllegalArgumentException if to is out of range"), 0);
        run.refusedEach(ARGUMENT, values(-2, 40, LOWEST, HIGHEST), "ifEntitled", 0, 0, EACH);
        run.refusedEach(ARGUMENT, values(-2, 0, 37, 38, 40), "ifEntitled", 0, 39, EACH).refused(ARGUMENT, "ifEntitled", 0, 1, 0);
        run.asked(0, "ifEntitled", 0, 1, 1).asked(0, "ifEntitled", 0, 39, 39);
    }

    // Promise 26

    private static void prices() {
        Run run = ordersFromTo(children(promise(26, "price: 1 to 999"), 0), 0, 0, 39).due(500, "set", 1, 0);
        run.due(999, "pay", 0, 999).asked(40, "ifPrice", 1).asked(1, "ifPrice", 999).due(998, "pay", 0, -1);
        run.asked(0, "ifPrice", 999).asked(1, "ifPrice", 998).refused(ARGUMENT, "ifPrice", 0).refused(ARGUMENT, "ifPrice", 1000);
    }

    private static void servedFromTodayOn() {
        String sentence = "Returns how many meals would be served from today on, if this was the price, and only days went by.";
        Run run = promise(26, sentence).asked(0, "ifPrice", 1).asked(0, "ifPrice", 999);
        children(run, 0, 1, 2).due(3, "come", 2, 1).due(500, "set", 1, 0).asked(0, "ifPrice", 1).due(600, "pay", 0, 600);
        orders(orders(orders(orders(run, 0, 0, 1, 2, 3, 39), 1, 0, 39), 2, 39), 3, 39).due(0, "entitle", 1, 39, 39);
        run.due(0, "menu", 39, 1).due(4, "pay", 3, 4);
        // Child 0 as often as it has the price, child 1 free on the last day, child 3 unsuited.
        run.asked(6, "ifPrice", 120).asked(5, "ifPrice", 121).asked(5, "ifPrice", 150).asked(4, "ifPrice", 151);
        run.asked(3, "ifPrice", 300).asked(2, "ifPrice", 301).asked(2, "ifPrice", 600).asked(1, "ifPrice", 601);
        run.due(1, "days", 1).asked(5, "ifPrice", 87).asked(4, "ifPrice", 88).asked(4, "ifPrice", 116).asked(5, "ifPrice", 70).asked(3, "ifPrice", 117);
        run.due(1, "days", 1).asked(1, "ifPrice", 101).asked(2, "ifPrice", 100).asked(250, "setting", 0);
        run.due(0, "days", 37).asked(2, "ifPrice", 100).asked(1, "ifPrice", 101).due(1, "days", 1).asked(0, "ifPrice", 1);
        Run full = promise(26, sentence);
        for (int c = 0; c < 12; c++) {
            full.due(c, "come", c / 3, 0);
            ordersFromTo(full, c, 0, 39);
        }
        full.due(480, "ifPrice", 12).due(456, "ifPrice", 13).due(0, "ifPrice", 501).due(12, "ifPrice", 500);
    }

    private static void priceOutOfRange() {
        Run run = promise(26, "Throws IllegalArgumentException if price is out of range");
        run.refusedEach(ARGUMENT, values(0, -1, 1000, LOWEST, HIGHEST), "ifPrice", EACH).asked(0, "ifPrice", 1);
        children(run, 0).refusedEach(ARGUMENT, values(0, 1000), "ifPrice", EACH).asked(0, "ifPrice", 999);
    }

    // Promise 27

    private static void fewestRefused() {
        Run run = promise(27, "fewest meals would be refused from today on, if only days went by,");
        children(run, 0, 1, 2).due(500, "set", 1, 0);
        // What was refused before today does not count: 3 of child 0, 1 of the others.
        orders(orders(orders(run, 0, 0, 1, 2), 1, 0), 2, 0).due(0, "days", 3).asked(0, "bestEntitled");
        run.due(1, "order", 2, 39, true).asked(2, "bestEntitled").due(1, "order", 1, 3, true).asked(1, "bestEntitled");
        run.due(2, "order", 2, 3, true).asked(2, "bestEntitled").due(250, "pay", 2, 250).asked(1, "bestEntitled");
        run.due(2, "order", 1, 39, true).asked(1, "bestEntitled").due(1, "days", 36).asked(1, "bestEntitled");
        run.due(250, "pay", 1, 250).asked(2, "bestEntitled").due(1, "days", 1).asked(0, "bestEntitled");
        // With what it would be paid back, others can be served: 2 meals of child 1, against 1 of child 2.
        Run back = children(run.another(), 0, 0, 1).due(500, "set", 1, 500).due(0, "share", 0, true);
        orders(back, 0, 0, 1).due(2, "days", 2).due(0, "pay", 0, 500).due(500, "set", 1, 0);
        orders(orders(back, 1, 38, 39), 2, 39).asked(0, "bestEntitled").due(0, "share", 0, false).asked(1, "bestEntitled");
        // It is paid back to the sibling that paid, which has then enough for its own meal.
        Run sibling = children(run.another(), 0, 0, 1).due(500, "set", 1, 0).due(0, "share", 0, true).due(250, "pay", 1, 250);
        orders(sibling, 0, 0).due(1, "days", 1).due(0, "share", 0, false);
        orders(orders(sibling, 1, 39), 2, 39).asked(0, "bestEntitled");
    }

    private static void onAllDays() {
        Run run = promise(27, "Returns the child by whose entitlement on all days (0 to 39), if it was changed now,");
        children(run, 0, 1).due(500, "set", 1, 0);
        orders(orders(run, 0, 5), 1, 0, 39).asked(1, "bestEntitled").due(0, "order", 1, 0, false).due(1, "order", 0, 6, true);
        run.asked(0, "bestEntitled").due(1, "order", 1, 0, true).due(1, "order", 1, 1, true).asked(1, "bestEntitled");
        // Who is entitled already would change nothing, but one that is not on the last or the first day would.
        run.due(0, "entitle", 1, 0, 39).asked(0, "bestEntitled").due(0, "entitle", 1, 1, 38).asked(0, "bestEntitled");
        run.due(0, "entitle", 0, 5, 6).asked(1, "bestEntitled").due(0, "entitle", 0, 6, 6).due(0, "entitle", 1, 0, 38);
        run.asked(0, "bestEntitled").due(0, "entitle", 0, 0, 39).asked(1, "bestEntitled").due(0, "entitle", 1, 1, 39);
        run.asked(1, "bestEntitled");
    }

    private static void lowestOfSeveral() {
        Run run = children(promise(27, "among several the lowest;"), 0, 1, 2).asked(0, "bestEntitled").due(500, "set", 1, 0);
        run.asked(0, "bestEntitled").due(1, "order", 2, 39, true).asked(2, "bestEntitled").due(2, "order", 1, 39, true);
        run.asked(1, "bestEntitled").due(3, "order", 0, 39, true).asked(0, "bestEntitled").due(2, "order", 0, 39, false);
        run.asked(1, "bestEntitled").due(0, "days", 40).asked(0, "bestEntitled");
        Run twelve = children(run.another(), 0, 1, 2, 3, 4, 0, 1, 2, 3, 4, 0, 1).due(500, "set", 1, 0);
        twelve.due(1, "order", 11, 39, true).asked(11, "bestEntitled").due(2, "order", 10, 39, true).asked(10, "bestEntitled");
    }

    private static void bestOfNone() {
        Run run = promise(27, "NONE without children.").asked(NONE, "bestEntitled").due(0, "days", 40).asked(NONE, "bestEntitled");
        run.due(0, "come", 0, 0).asked(0, "bestEntitled").due(1, "undo").asked(NONE, "bestEntitled");
    }
}
