/** The boundary cases of promise 1, a new object, and of promises 6 to 11, what there is. */
final class FactsBoundaries extends Boundaries {
    private FactsBoundaries() {
    }

    static void testAll() {
        withoutChildren();
        today();
        howManyChildren();
        orderedMeals();
        servedMeals();
        chargedMeals();
        freeMeals();
        refusedMeals();
        unsuitedMeals();
        paidIn();
        chargedInAll();
        writtenOff();
        sumOfBalances();
        notAboutAnything();
        familyAndDietOfAChild();
        balanceOfAChild();
        entitlementOfAChild();
        mealsOfAChild();
        mealsOfNeighbours();
        chargedToAChild();
        refusedOfAChild();
        noSuchChild();
        noNumberOfAChild();
        childrenOfAFamily();
        sharingOfAFamily();
        balancesOfAFamily();
        writtenOffForAFamily();
        noSuchFamily();
        noNumberOfAFamily();
        daysThatThereAre();
        menuOfADay();
        mealsOfADay();
        noSuchDay();
        noNumberOfADay();
        daysOfAMeal();
        whatBecameOfAMeal();
        chargeOfAMeal();
        payerOfAMeal();
        noSuchMeal();
        noNumberOfAMeal();
        settingsThatThereAre();
        nothingToTest();
    }

    private static void nothingToTest() {
        noBoundary(6, "Returns a number.", "Returns that number.");
        noBoundary(7, "Returns a number of a child.", "- c: child", "Returns that number.");
        noBoundary(8, "Returns a number of a family.", "- f: family", "Returns that number.");
        noBoundary(9, "Returns a number of a day.", "Returns that number.");
        noBoundary(10, "Returns a number of a meal.", "- c: child", "Returns that number.");
        noBoundary(11, "Returns a setting.", "Returns that setting.");
    }

    private static void withoutChildren() {
        Run run = promise(1, "Creates a term without children.").asked(0, "about", 1).asked(NONE, "bestEntitled");
        noSuchChild(run, 0);
        for (int f = 0; f <= 4; f++) {
            run.asked(0, "family", f, 0).asked(NONE, "needs", f).refused(STATE, "writeOff", f);
        }
        for (int d = 0; d <= 39; d++) {
            run.due(0, "day", d, 1);
        }
        run.refused(STATE, "undo").refused(STATE, "restore", 0).refused(STATE, "restore", 1).asked(0, "ifPrice", 1);
        run.asked(0, "errorPosition").asked(0, "simulate", 0, 1).asked(NONE, "runScript", 1, 600040).due(0, "clearText");
        run.did(0, "come", 0, 0);
    }

    // Promise 6

    private static void today() {
        Run run = promise(6, "what: 0: today;").asked(0, "about", 0).due(0, "days", 1).asked(1, "about", 0);
        run.due(0, "days", 38).asked(39, "about", 0).due(0, "days", 1).asked(40, "about", 0);
    }

    private static void howManyChildren() {
        Run run = promise(6, "1: the children;").asked(0, "about", 1);
        for (int c = 0; c < 12; c++) {
            run.due(c, "come", c % 5, 0).asked(c + 1, "about", 1);
        }
        run.refused(STATE, "come", 0, 0).asked(12, "about", 1);
    }

    /** Twelve children order for each day; asked must be with due alone, as few calls are left. */
    private static Run full(Run run) {
        children(run, 0, 0, 0, 0, 0, 0, 0, 0, 0, 0, 0, 0);
        for (int c = 0; c < 12; c++) {
            ordersFromTo(run, c, 0, 39);
        }
        return run;
    }

    private static void all(Run run, int... due) {
        for (int what = 0; what < due.length; what++) {
            run.due(due[what], "about", what);
        }
    }

    /** Two children of family 0 that share: on day 0 child 0 is charged, on day 1 free, on day 3 refused, and so on. */
    private static Run oneOfEachKind(Run run) {
        children(run, 0, 0).due(2, "come", 0, 1).due(500, "set", 1, 0).due(0, "share", 0, true).due(250, "pay", 0, 250);
        run.due(250, "pay", 1, 250).due(0, "entitle", 0, 1, 1).due(0, "menu", 4, 1);
        return orders(orders(run, 0, 0, 1, 2, 3, 39), 2, 4);
    }

    private static void orderedMeals() {
        String sentence = "2: the meals that are ordered for today or later;";
        Run run = children(promise(6, sentence), 0, 0).asked(0, "about", 2);
        orders(orders(run, 0, 0, 1, 39), 1, 0).asked(4, "about", 2).due(0, "order", 0, 1, false).asked(3, "about", 2);
        run.due(2, "days", 1).asked(1, "about", 2).due(1, "order", 1, 1, true).asked(2, "about", 2).due(1, "days", 1);
        run.asked(1, "about", 2).due(0, "days", 37).asked(1, "about", 2).due(1, "days", 1).asked(0, "about", 2);
        full(promise(6, sentence)).due(480, "about", 2).due(24, "days", 39).due(12, "about", 2);
    }

    private static void servedMeals() {
        String sentence = "3: the meals that were served so far;";
        Run run = oneOfEachKind(promise(6, sentence)).asked(0, "about", 3).due(1, "days", 1).asked(1, "about", 3);
        run.due(1, "days", 1).asked(2, "about", 3).due(1, "days", 1).asked(3, "about", 3).due(0, "days", 2);
        run.asked(3, "about", 3).due(250, "entitle", 0, 0, 1).asked(3, "about", 3);
        Run all = full(promise(6, sentence)).due(250, "set", 0, 1).due(480, "days", 40);
        all(all, 40, 12, 0, 480, 480, 0, 0, 0, 0, 480, 0, -480);
    }

    private static void chargedMeals() {
        Run run = oneOfEachKind(promise(6, "4: those of them that are charged;")).asked(0, "about", 4).due(1, "days", 1);
        run.asked(1, "about", 4).due(1, "days", 1).asked(1, "about", 4).due(1, "days", 1).asked(2, "about", 4);
        run.due(0, "days", 2).asked(2, "about", 4).due(500, "entitle", 0, 0, 39).asked(0, "about", 4);
        run.due(-750, "entitle", 0, 3, NONE).asked(3, "about", 4);
    }

    private static void freeMeals() {
        String sentence = "5: those that are free;";
        Run run = oneOfEachKind(promise(6, sentence)).due(1, "days", 1).asked(0, "about", 5).due(1, "days", 1);
        run.asked(1, "about", 5).due(1, "days", 3).asked(1, "about", 5).due(500, "entitle", 0, 0, 39).asked(3, "about", 5);
        run.due(-750, "entitle", 0, 3, NONE).asked(0, "about", 5);
        Run all = full(promise(6, sentence));
        for (int c = 0; c < 12; c++) {
            all.due(0, "entitle", c, 0, 39);
        }
        all.due(480, "days", 40).due(480, "about", 3).due(0, "about", 4).due(480, "about", 5).due(0, "about", 9);
    }

    private static void refusedMeals() {
        String sentence = "6: the meals that were refused so far;";
        Run run = oneOfEachKind(promise(6, sentence)).due(3, "days", 3).asked(0, "about", 6).due(0, "days", 1);
        run.asked(1, "about", 6).due(0, "days", 1).asked(1, "about", 6).due(0, "days", 34).asked(1, "about", 6);
        run.due(0, "days", 1).asked(2, "about", 6).due(500, "entitle", 0, 0, 39).asked(2, "about", 6);
        Run all = full(promise(6, sentence)).due(500, "set", 1, 0).due(0, "days", 40);
        all(all, 40, 12, 0, 0, 0, 0, 480, 0, 0, 0, 0, 0);
    }

    private static void unsuitedMeals() {
        String sentence = "7: those that were unsuited so far;";
        Run run = oneOfEachKind(promise(6, sentence)).due(3, "days", 4).asked(0, "about", 7).due(0, "days", 1);
        run.asked(1, "about", 7).due(0, "days", 35).asked(1, "about", 7);
        // As many as 512 calls allow: 11 children, and each day has its menu.
        Run all = promise(6, sentence);
        for (int c = 0; c < 11; c++) {
            all.due(c, "come", 0, 3);
            ordersFromTo(all, c, 0, 39);
        }
        for (int d = 0; d < 40; d++) {
            all.due(0, "menu", d, 1 + d % 3);
        }
        all(all.due(0, "days", 40), 40, 11, 0, 0, 0, 0, 0, 440, 0, 0, 0, 0);
    }

    private static void paidIn() {
        Run run = children(promise(6, "8: what was paid in so far, less what was paid out;"), 0, 0).asked(0, "about", 8);
        run.due(9999, "pay", 0, 9999).due(1, "pay", 1, 1).asked(10000, "about", 8).due(0, "pay", 0, -9999);
        run.asked(1, "about", 8).due(0, "move", 1, 0, 1).asked(1, "about", 8).due(0, "pay", 0, -1).asked(0, "about", 8);
        // More can be paid out than was paid in: a debt is written off, and what made it is paid back.
        run.due(1, "order", 0, 0, true).due(1, "days", 1).due(250, "writeOff", 0).due(250, "entitle", 0, 0, 0);
        run.asked(0, "about", 8).due(0, "pay", 0, -250).asked(-250, "about", 8).asked(0, "about", 11);
    }

    private static void chargedInAll() {
        Run run = oneOfEachKind(promise(6, "9: what is charged for all served meals, as they are now;")).asked(0, "about", 9);
        run.due(1, "days", 1).asked(250, "about", 9).due(1, "days", 1).asked(250, "about", 9).due(1, "days", 1);
        run.asked(500, "about", 9).due(250, "set", 0, 999).asked(500, "about", 9).due(0, "days", 2).asked(500, "about", 9);
        run.due(500, "entitle", 0, 0, 39).asked(0, "about", 9).due(-2 * 999, "entitle", 0, 1, 1).asked(2 * 999, "about", 9);
        run.due(2 * 999 - 250, "writeOff", 0).asked(2 * 999, "about", 9);
    }

    private static void writtenOff() {
        Run run = orders(orders(children(promise(6, "10: what was written off so far;"), 0, 4), 0, 0, 2), 1, 0);
        run.due(250, "set", 0, 1).due(2, "days", 2).asked(0, "about", 10).due(1, "writeOff", 0).asked(1, "about", 10);
        run.due(1, "writeOff", 4).asked(2, "about", 10).due(1, "set", 0, 400).due(1, "days", 1).due(400, "writeOff", 0);
        run.asked(402, "about", 10).due(401, "entitle", 0, 0, 39).asked(402, "about", 10).due(12, "undo");
        run.asked(402, "about", 10).due(11, "undo").asked(2, "about", 10);
    }

    private static void sumOfBalances() {
        Run run = promise(6, "11: the sum of all balances").asked(0, "about", 11);
        orders(children(run, 0, 0, 3), 2, 0, 1).asked(0, "about", 11).due(500, "pay", 0, 500).asked(500, "about", 11);
        run.due(2, "days", 2).asked(0, "about", 11).due(499, "pay", 0, -1).asked(-1, "about", 11).due(1, "pay", 1, 1);
        run.asked(0, "about", 11).due(500, "writeOff", 3).asked(500, "about", 11);
    }

    private static void notAboutAnything() {
        Run run = promise(6, "Throws IllegalArgumentException if what is not 0 to 11").asked(0, "about", 0);
        run.asked(0, "about", 11).refusedEach(ARGUMENT, values(-1, 12, LOWEST, HIGHEST), "about", EACH);
    }

    // Promise 7

    private static void familyAndDietOfAChild() {
        Run run = promise(7, "what: 0: its family; 1: its diet;");
        for (int c = 0; c < 12; c++) {
            run.due(c, "come", c * 7 % 5, c * 3 % 4).asked(c * 7 % 5, "child", c, 0).asked(c * 3 % 4, "child", c, 1);
        }
    }

    private static void balanceOfAChild() {
        Run run = orders(children(promise(7, "2: its balance;"), 0, 0), 0, 0, 1).asked(0, "child", 0, 2).due(2, "days", 2);
        run.asked(-500, "child", 0, 2).asked(0, "child", 1, 2).due(0, "pay", 0, 500).asked(0, "child", 0, 2);
        run.due(1, "pay", 1, 1).asked(1, "child", 1, 2).asked(0, "child", 0, 2);
    }

    private static void entitlementOfAChild() {
        Run first = children(promise(7, "3: the first day on which it is entitled, NONE if on none;"), 0, 0);
        Run last = children(promise(7, "4: the last one, likewise;"), 0, 0).asked(NONE, "child", 0, 4);
        int[][] ranges = {{0, 0}, {0, 39}, {39, 39}, {0, 1}, {38, 39}};
        first.asked(NONE, "child", 0, 3);
        for (int[] range : ranges) {
            first.due(0, "entitle", 0, range[0], range[1]).asked(range[0], "child", 0, 3).asked(NONE, "child", 1, 3);
            last.due(0, "entitle", 0, range[0], range[1]).asked(range[1], "child", 0, 4).asked(NONE, "child", 1, 4);
        }
        first.due(0, "entitle", 0, 39, NONE).asked(NONE, "child", 0, 3).asked(NONE, "child", 0, 4);
        last.due(0, "entitle", 0, 0, NONE).asked(NONE, "child", 0, 4).asked(NONE, "child", 0, 3);
        // That the days have gone by does not matter for it.
        first.due(0, "entitle", 0, 0, 1).due(0, "days", 40).asked(0, "child", 0, 3).asked(1, "child", 0, 4);
    }

    private static void mealsOfAChild() {
        String sentence = "5: the meals that it was served so far; 6: how many of these are charged to siblings now;";
        Run run = oneOfEachKind(promise(7, sentence)).asked(0, "child", 0, 5).asked(0, "child", 0, 6).due(1, "days", 1);
        run.asked(1, "child", 0, 5).asked(0, "child", 0, 6).due(1, "days", 1).asked(2, "child", 0, 5).due(1, "days", 1);
        run.asked(3, "child", 0, 5).asked(1, "child", 0, 6).due(0, "days", 2).asked(3, "child", 0, 5).asked(1, "child", 0, 6);
        run.asked(0, "child", 1, 5).asked(0, "child", 1, 6).asked(0, "child", 2, 5).due(500, "entitle", 0, 0, 39);
        run.asked(3, "child", 0, 5).asked(0, "child", 0, 6).due(-750, "entitle", 0, 39, 39).asked(0, "child", 0, 6);
        Run all = children(promise(7, sentence), 0, 0).due(500, "set", 1, 0).due(250, "set", 0, 1).due(40, "pay", 1, 40);
        ordersFromTo(all, 0, 0, 39).due(40, "share", 0, true).due(40, "days", 40).asked(40, "child", 0, 5);
        all.asked(40, "child", 0, 6).asked(0, "child", 1, 5).asked(0, "child", 1, 6).due(1, "entitle", 0, 0, 0);
        all.asked(39, "child", 0, 6).due(0, "entitle", 0, 39, 39).asked(38, "child", 0, 6).asked(40, "child", 0, 5);
    }

    private static void mealsOfNeighbours() {
        Run run = promise(7, "5: the meals that it was served so far; 6: how many of these are charged to siblings now;");
        for (int c = 0; c < 12; c++) {
            orders(run.due(c, "come", c % 5, 0), c, 0, 39);
        }
        run.due(24, "days", 40);
        for (int c = 0; c < 12; c++) {
            run.asked(2, "child", c, 5).asked(0, "child", c, 6).asked(500, "child", c, 7).asked(0, "child", c, 8);
        }
    }

    private static void chargedToAChild() {
        String sentence = "7: what is charged to its balance for meals, its own and those of siblings;";
        Run run = oneOfEachKind(promise(7, sentence)).asked(0, "child", 0, 7).asked(0, "child", 1, 7).due(1, "days", 1);
        run.asked(250, "child", 0, 7).asked(0, "child", 1, 7).due(1, "days", 1).asked(250, "child", 0, 7).due(1, "days", 1);
        run.asked(250, "child", 0, 7).asked(250, "child", 1, 7).due(0, "days", 3).due(1, "order", 1, 6, true);
        run.due(300, "pay", 1, 300).due(1, "days", 1).asked(500, "child", 1, 7).asked(250, "child", 0, 7);
        run.due(250, "entitle", 1, 0, 39).asked(250, "child", 1, 7).due(250, "entitle", 0, 1, 39).asked(0, "child", 1, 7);
        run.asked(250, "child", 0, 7).due(250, "entitle", 0, 0, 39).asked(0, "child", 0, 7);
        // Nothing but a change of the entitlement makes it less.
        Run owing = orders(children(run.another(), 0), 0, 0).due(1, "days", 1).due(250, "writeOff", 0).due(9, "pay", 0, 9);
        owing.asked(250, "child", 0, 7);
    }

    private static void refusedOfAChild() {
        String sentence = "8: the meals that it was refused so far";
        Run run = oneOfEachKind(promise(7, sentence)).asked(0, "child", 0, 8).due(3, "days", 3).asked(0, "child", 0, 8);
        run.due(0, "days", 1).asked(1, "child", 0, 8).due(0, "days", 35).asked(1, "child", 0, 8).due(0, "days", 1);
        run.asked(2, "child", 0, 8).asked(0, "child", 1, 8).asked(0, "child", 2, 8);
        Run all = ordersFromTo(children(run.another(), 0, 0), 1, 0, 39).due(500, "set", 1, 0).due(0, "days", 40);
        all.asked(40, "child", 1, 8).asked(0, "child", 0, 8).asked(0, "child", 1, 5);
    }

    private static void noSuchChild() {
        Run run = promise(7, "Throws IndexOutOfBoundsException if there is no such child").refused(INDEX, "child", 0, 0);
        run.due(0, "come", 0, 0).asked(0, "child", 0, 0).refusedEach(INDEX, values(-1, 1, 11, 12), "child", EACH, 0);
        for (int c = 1; c < 12; c++) {
            run.refused(INDEX, "child", c, 0).due(c, "come", 0, 0).asked(0, "child", c, 0);
        }
        run.refusedEach(INDEX, values(-1, 12, LOWEST, HIGHEST), "child", EACH, 8).due(11, "undo");
        run.refused(INDEX, "child", 11, 0).asked(0, "child", 10, 0);
    }

    private static void noNumberOfAChild() {
        Run run = children(promise(7, "Throws IllegalArgumentException if what is not 0 to 8"), 0);
        run.asked(0, "child", 0, 0).asked(0, "child", 0, 8).refusedEach(ARGUMENT, values(-1, 9, LOWEST, HIGHEST), "child", 0, EACH);
        run.refusedEach(INDEX, values(-1, 9, LOWEST, HIGHEST), "child", 1, EACH).refused(INDEX, "child", -1, 9);
    }

    // Promise 8

    private static void childrenOfAFamily() {
        Run run = promise(8, "what: 0: its children;").askedEach(0, values(0, 1, 2, 3, 4), "family", EACH, 0);
        for (int c = 0; c < 12; c++) {
            run.due(c, "come", 4, 0).asked(c + 1, "family", 4, 0).asked(0, "family", 3, 0);
        }
        run.askedEach(0, values(0, 1, 2, 3), "family", EACH, 0).due(11, "undo").due(11, "come", 0, 0);
        run.asked(11, "family", 4, 0).asked(1, "family", 0, 0);
    }

    private static void sharingOfAFamily() {
        Run run = promise(8, "1: 1 if it shares, otherwise 0;").askedEach(0, values(0, 1, 2, 3, 4), "family", EACH, 1);
        run.due(0, "share", 0, true).due(0, "share", 4, true).askedEach(1, values(0, 4), "family", EACH, 1);
        run.askedEach(0, values(1, 2, 3), "family", EACH, 1).due(0, "share", 4, false).asked(0, "family", 4, 1);
        run.asked(1, "family", 0, 1);
    }

    private static void balancesOfAFamily() {
        Run run = promise(8, "2: the sum of its balances;").asked(0, "family", 4, 2);
        Run debt = promise(8, "3: its debt: how far its balances that are below 0 are below it, together;");
        debt.asked(0, "family", 4, 3);
        orders(orders(children(run, 4, 4, 4, 0), 0, 0), 1, 0, 1).due(250, "set", 0, 1).due(100, "pay", 2, 100);
        orders(orders(children(debt, 4, 4, 4, 0), 0, 0), 1, 0, 1).due(250, "set", 0, 1).due(100, "pay", 2, 100);
        run.asked(100, "family", 4, 2).due(2, "days", 1).asked(98, "family", 4, 2).due(1, "set", 0, 499).due(1, "days", 1);
        debt.asked(0, "family", 4, 3).due(2, "days", 1).asked(2, "family", 4, 3).due(1, "set", 0, 499).due(1, "days", 1);
        run.asked(-401, "family", 4, 2).asked(0, "family", 0, 2).due(401, "pay", 2, 301).asked(-100, "family", 4, 2);
        debt.asked(501, "family", 4, 3).asked(0, "family", 0, 3).due(401, "pay", 2, 301).asked(501, "family", 4, 3);
        run.due(0, "pay", 0, 1).due(5, "pay", 3, 5).asked(-99, "family", 4, 2).asked(5, "family", 0, 2);
        debt.due(0, "pay", 0, 1).asked(500, "family", 4, 3).due(0, "pay", 1, 500).asked(0, "family", 4, 3);
        debt.due(1, "pay", 1, 1).asked(0, "family", 4, 3);
    }

    private static void writtenOffForAFamily() {
        Run run = promise(8, "4: what was written off for it so far").askedEach(0, values(0, 1, 2, 3, 4), "family", EACH, 4);
        orders(orders(children(run, 0, 4, 4), 0, 0), 1, 0, 1).due(250, "set", 0, 1).due(2, "days", 1);
        run.due(1, "writeOff", 4).asked(1, "family", 4, 4).asked(0, "family", 0, 4).due(1, "days", 1).due(1, "writeOff", 4);
        run.asked(2, "family", 4, 4).due(1, "writeOff", 0).asked(1, "family", 0, 4).asked(2, "family", 4, 4);
        run.due(2, "entitle", 1, 0, 39).asked(2, "family", 4, 4).asked(0, "family", 3, 4);
    }

    private static void noSuchFamily() {
        Run run = promise(8, "Throws IndexOutOfBoundsException if there is no such family").asked(0, "family", 0, 0);
        run.asked(0, "family", 4, 4).refusedEach(INDEX, values(-1, 5, LOWEST, HIGHEST), "family", EACH, 0);
        children(run, 0, 1, 2, 3, 4, 0).refusedEach(INDEX, values(-1, 5, LOWEST, HIGHEST), "family", EACH, 4);
    }

    private static void noNumberOfAFamily() {
        Run run = promise(8, "Throws IllegalArgumentException if what is not 0 to 4").asked(0, "family", 4, 0);
        run.asked(0, "family", 0, 4).refusedEach(ARGUMENT, values(-1, 5, LOWEST, HIGHEST), "family", 0, EACH);
        run.refusedEach(INDEX, values(-1, 5), "family", 5, EACH).refusedEach(INDEX, values(-1, 5), "family", -1, EACH);
    }

    // Promise 9

    private static void daysThatThereAre() {
        Run run = promise(9, "d: day, 0 to 39");
        for (int d = 0; d <= 39; d++) {
            run.due(0, "menu", d, 1 + d % 3).due(1 + d % 3, "day", d, 0);
        }
        run.askedEach(1, values(0, 39), "day", EACH, 0).asked(0, "day", 0, 3).asked(0, "day", 39, 3);
        run.refused(INDEX, "day", -1, 0).refused(INDEX, "day", 40, 0);
    }

    private static void menuOfADay() {
        Run run = promise(9, "what: 0: its menu (0: without both, 1: with meat, 2: with milk, 3: with both);");
        for (int menu = 3; menu >= 0; menu--) {
            run.call("menu", 0, menu);
            run.call("menu", 39, menu);
            run.askedEach(menu, values(0, 39), "day", EACH, 0).askedEach(0, values(1, 38), "day", EACH, 0);
        }
        run.due(0, "menu", 0, 3).due(0, "days", 40).asked(3, "day", 0, 0).asked(0, "day", 39, 0);
    }

    private static void mealsOfADay() {
        Run run = promise(9, "1: the meals that are or were ordered for it; 2: those that were served; 3: what is charged for these");
        children(run, 0, 0, 1, 2).due(4, "come", 2, 1).due(500, "set", 1, 0).due(0, "share", 0, true).due(999, "pay", 1, 999);
        run.asked(0, "day", 0, 1).due(0, "entitle", 2, 0, 0).due(0, "menu", 0, 3);
        for (int c = 0; c <= 4; c++) {
            run.due(c + 1, "order", c, 0, true).asked(c + 1, "day", 0, 1).asked(0, "day", 0, 2).asked(0, "day", 0, 3);
        }
        // Charged to child 1 are its own meal and that of child 0; 2 is free, 3 refused, 4 unsuited.
        run.due(3, "days", 1).asked(5, "day", 0, 1).asked(3, "day", 0, 2).asked(500, "day", 0, 3);
        run.due(250, "entitle", 0, 0, 0).asked(5, "day", 0, 1).asked(3, "day", 0, 2).asked(250, "day", 0, 3);
        run.due(250, "set", 0, 1).due(-1, "entitle", 2, 1, 1).asked(251, "day", 0, 3).due(250, "entitle", 1, 0, 0);
        run.asked(1, "day", 0, 3).asked(3, "day", 0, 2).asked(0, "day", 1, 1).asked(0, "day", 39, 1);
        Run all = promise(9, "1: the meals that are or were ordered for it; 2: those that were served; 3: what is charged for these");
        children(all, 0, 0, 0, 0, 0, 0, 0, 0, 0, 0, 0, 0).due(250, "set", 0, 500);
        for (int c = 0; c < 12; c++) {
            all.due(c + 1, "order", c, 39, true);
        }
        all.asked(12, "day", 39, 1).due(12, "days", 40).asked(12, "day", 39, 1).asked(12, "day", 39, 2);
        all.asked(6000, "day", 39, 3).asked(0, "day", 38, 1);
    }

    private static void noSuchDay() {
        Run run = promise(9, "Throws IndexOutOfBoundsException if there is no such day").asked(0, "day", 0, 0);
        run.asked(0, "day", 39, 0).refusedEach(INDEX, values(-1, 40, LOWEST, HIGHEST), "day", EACH, 0);
        run.due(0, "days", 40).asked(0, "day", 0, 0).asked(0, "day", 39, 3).refusedEach(INDEX, values(-1, 40), "day", EACH, 3);
    }

    private static void noNumberOfADay() {
        Run run = promise(9, "Throws IllegalArgumentException if what is not 0 to 3").asked(0, "day", 39, 0);
        run.asked(0, "day", 0, 3).refusedEach(ARGUMENT, values(-1, 4, LOWEST, HIGHEST), "day", 0, EACH);
        run.refusedEach(INDEX, values(-1, 4), "day", 40, EACH).refusedEach(INDEX, values(-1, 4), "day", -1, EACH);
    }

    // Promise 10

    private static void daysOfAMeal() {
        Run run = ordersFromTo(children(promise(10, "d: day, 0 to 39"), 0, 0), 0, 0, 39);
        for (int d = 0; d <= 39; d++) {
            run.due(1, "meal", 0, d, 0).due(0, "meal", 1, d, 0);
        }
        run.refused(INDEX, "meal", 0, -1, 0).refused(INDEX, "meal", 0, 40, 0).refused(INDEX, "meal", 1, -1, 0);
    }

    /** The six kinds, in the order of their numbers, are the meals of children 0 to 5 on day 0. */
    private static Run sixKinds(String sentence) {
        Run run = children(promise(10, sentence), 0, 0, 0, 1, 2).due(5, "come", 3, 1).due(500, "set", 1, 0);
        run.due(250, "pay", 2, 250).due(0, "entitle", 3, 0, 0).due(0, "menu", 0, 1);
        for (int c = 2; c <= 5; c++) {
            run.due(c - 1, "order", c, 0, true);
        }
        return run.due(1, "order", 1, 39, true).due(2, "days", 1);
    }

    private static void whatBecameOfAMeal() {
        Run run = sixKinds("what: 0: 0 if it was not ordered, 1 ordered (and the day has not gone by), 2 served and charged,"
                + " 3 served free, 4 refused, 5 unsuited;");
        for (int c = 0; c <= 5; c++) {
            run.asked(c, "meal", c, c == 1 ? 39 : 0, 0);
        }
        // Yesterday it was ordered, and today it has not gone by.
        run.due(1, "order", 0, 1, true).asked(1, "meal", 0, 1, 0).due(0, "days", 1).asked(4, "meal", 0, 1, 0);
        run.due(0, "days", 37).asked(1, "meal", 1, 39, 0).due(0, "days", 1).asked(4, "meal", 1, 39, 0);
        run.due(250, "entitle", 2, 0, 39).asked(3, "meal", 2, 0, 0).due(-250, "entitle", 3, 0, NONE).asked(2, "meal", 3, 0, 0);
        run.due(0, "entitle", 4, 0, 39).asked(4, "meal", 4, 0, 0).due(0, "entitle", 5, 0, 39).asked(5, "meal", 5, 0, 0);
    }

    private static void chargeOfAMeal() {
        Run run = sixKinds("1: what is charged for it, 0 if it is free, NONE if it was not served;");
        int[] due = {NONE, NONE, 250, 0, NONE, NONE};
        for (int c = 0; c <= 5; c++) {
            run.asked(due[c], "meal", c, c == 1 ? 39 : 0, 1);
        }
        run.due(250, "entitle", 2, 0, 0).asked(0, "meal", 2, 0, 1).due(250, "set", 0, 1).due(-1, "entitle", 2, 1, 1);
        run.asked(1, "meal", 2, 0, 1).due(1, "set", 0, 999).due(-999, "entitle", 3, 1, 1).asked(999, "meal", 3, 0, 1);
        run.due(0, "entitle", 4, 0, 39).asked(NONE, "meal", 4, 0, 1);
    }

    private static void payerOfAMeal() {
        Run run = sixKinds("2: who was charged, NONE if it is free or was not served");
        int[] due = {NONE, NONE, 2, NONE, NONE, NONE};
        for (int c = 0; c <= 5; c++) {
            run.asked(due[c], "meal", c, c == 1 ? 39 : 0, 2);
        }
        run.due(0, "share", 0, true).due(250, "pay", 0, 250).due(1, "order", 2, 1, true).due(1, "days", 1);
        run.asked(0, "meal", 2, 1, 2).due(500, "entitle", 2, 0, 1).asked(NONE, "meal", 2, 1, 2).asked(NONE, "meal", 2, 0, 2);
        run.due(-500, "entitle", 2, 39, 39).asked(2, "meal", 2, 1, 2).due(-250, "entitle", 3, 0, NONE).asked(3, "meal", 3, 0, 2);
        // The last child of all pays, too.
        Run last = children(run.another(), 0, 1, 1, 1, 1, 1, 1, 1, 1, 1, 1, 0).due(500, "set", 1, 0).due(0, "share", 0, true);
        last.due(250, "pay", 11, 250).due(1, "order", 0, 39, true).due(1, "days", 40).asked(11, "meal", 0, 39, 2);
    }

    private static void noSuchMeal() {
        Run run = promise(10, "Throws IndexOutOfBoundsException if there is no such child or day").refused(INDEX, "meal", 0, 0, 0);
        children(run, 0, 0).asked(0, "meal", 0, 0, 0).asked(0, "meal", 1, 39, 0);
        run.refusedEach(INDEX, values(-1, 2, 12, LOWEST, HIGHEST), "meal", EACH, 0, 0);
        run.refusedEach(INDEX, values(-1, 40, LOWEST, HIGHEST), "meal", 0, EACH, 0).refused(INDEX, "meal", 1, 40, 0);
        run.refused(INDEX, "meal", 2, -1, 0).refused(INDEX, "meal", -1, 40, 0);
        for (int c = 2; c < 12; c++) {
            run.due(c, "come", 0, 0);
        }
        run.asked(0, "meal", 11, 39, 0).refused(INDEX, "meal", 12, 0, 0).refused(INDEX, "meal", 11, 40, 0);
    }

    private static void noNumberOfAMeal() {
        Run run = children(promise(10, "Throws IllegalArgumentException if what is not 0 to 2"), 0).asked(0, "meal", 0, 0, 0);
        run.asked(NONE, "meal", 0, 0, 2).refusedEach(ARGUMENT, values(-1, 3, LOWEST, HIGHEST), "meal", 0, 0, EACH);
        run.refused(INDEX, "meal", 1, 0, 3).refused(INDEX, "meal", 0, 40, 3).refused(INDEX, "meal", 0, -1, -1);
        run.refused(INDEX, "meal", -1, 0, -1);
    }

    // Promise 11

    private static void settingsThatThereAre() {
        Run run = promise(11, "what: 0 or 1").asked(250, "setting", 0).asked(500, "setting", 1).due(250, "set", 0, 1);
        run.asked(1, "setting", 0).due(500, "set", 1, 0).asked(0, "setting", 1).due(1, "set", 0, 999).due(0, "set", 1, 9999);
        run.asked(999, "setting", 0).asked(9999, "setting", 1);
        Run wrong = promise(11, "Throws IllegalArgumentException if what is out of range");
        wrong.refusedEach(ARGUMENT, values(-1, 2, LOWEST, HIGHEST), "setting", EACH);
    }
}
