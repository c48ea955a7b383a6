/** The boundary cases of promises 12 to 22, the actions and undo. */
final class ActionsBoundaries extends Boundaries {
    private ActionsBoundaries() {
    }

    static void testAll() {
        dietsOfWhoComes();
        numberOfWhoComes();
        comeToNoFamily();
        comeWithNoDiet();
        comeAsTheThirteenth();
        menus();
        previousMenu();
        menuOfNoDay();
        noMenu();
        menuOfADayThatWentBy();
        orderedThen();
        orderedForTheDay();
        orderOfNobody();
        orderForADayThatWentBy();
        paidInAndOut();
        amounts();
        balanceAfterPaying();
        payOfNobody();
        amountOutOfRange();
        paidOutTooMuch();
        movedToASibling();
        movedAmounts();
        balanceAfterMoving();
        moveOfNobody();
        movedAmountOutOfRange();
        movedToWhoIsNoSibling();
        movedTooMuch();
        sharesThen();
        sumOfTheFamily();
        shareOfNoFamily();
        firstDays();
        lastDays();
        howMuchGreater();
        entitlementOfNobody();
        lastDayOutOfRange();
        writtenOff();
        howMuchIsWrittenOff();
        writeOffOfNoFamily();
        writeOffWithoutADebt();
        oneToFortyDays();
        servedInTheDays();
        daysOutOfRange();
        notSoManyDaysLeft();
        settings();
        valuesOfSettings();
        previousSetting();
        settingOutOfRange();
        takenBack();
        stillRemembered();
        nothingToTakeBack();
        nothingToTest();
    }

    private static void nothingToTest() {
        noBoundary(12, "A child comes.", "- f: family");
        noBoundary(13, "Changes a menu.", "- d: day");
        noBoundary(14, "A child orders a meal, or does not any more.", "- c: child - d: day");
        noBoundary(15, "- c: child");
        noBoundary(16, "- c: child");
        noBoundary(17, "Changes whether a family shares.", "- f: family");
        noBoundary(18, "Changes the entitlement of a child.", "- c: child");
        noBoundary(19, "- f: family");
        noBoundary(20, "Lets days go by.");
        noBoundary(21, "Changes a setting.");
    }

    // Promise 12

    private static void dietsOfWhoComes() {
        Run run = promise(12, "diet: 0 to 3");
        for (int diet = 0; diet <= 3; diet++) {
            run.did(diet, "come", 0, diet).asked(diet, "child", diet, 1);
        }
        run.refused(ARGUMENT, "come", 0, -1).refused(ARGUMENT, "come", 0, 4);
    }

    private static void numberOfWhoComes() {
        Run run = promise(12, "Returns its number.");
        for (int c = 0; c <= 11; c++) {
            run.did(c, "come", c % 5, 0);
        }
        run.due(11, "undo").due(10, "undo").due(10, "come", 0, 0).due(11, "come", 0, 0);
    }

    private static void comeToNoFamily() {
        Run run = promise(12, "Throws IndexOutOfBoundsException if there is no such family").did(0, "come", 0, 0);
        run.did(1, "come", 4, 0).refusedEach(INDEX, values(-1, 5, LOWEST, HIGHEST), "come", EACH, 0);
        run.refusedEach(INDEX, values(-1, 5), "come", EACH, 4);
    }

    private static void comeWithNoDiet() {
        Run run = promise(12, "Throws IllegalArgumentException if diet is out of range");
        run.refusedEach(ARGUMENT, values(-1, 4, LOWEST, HIGHEST), "come", 4, EACH);
        for (int c = 0; c < 12; c++) {
            run.due(c, "come", 0, 3);
        }
        run.refusedEach(ARGUMENT, values(-1, 4), "come", 0, EACH).refusedEach(INDEX, values(-1, 4), "come", 5, EACH);
    }

    private static void comeAsTheThirteenth() {
        Run run = promise(12, "Throws IllegalStateException if there are 12");
        for (int c = 0; c < 11; c++) {
            run.due(c, "come", 0, 0);
        }
        run.did(11, "come", 4, 3).refused(STATE, "come", 0, 0).refused(STATE, "come", 4, 3).due(11, "undo");
        run.did(11, "come", 0, 0).refused(STATE, "come", 0, 0).due(0, "days", 40).refused(STATE, "come", 0, 0);
    }

    // Promise 13

    private static void menus() {
        Run run = promise(13, "menu: 0 to 3");
        for (int menu = 0; menu <= 3; menu++) {
            run.did(Math.max(0, menu - 1), "menu", 39, menu).asked(menu, "day", 39, 0);
        }
        run.refused(ARGUMENT, "menu", 39, -1).refused(ARGUMENT, "menu", 39, 4);
    }

    private static void previousMenu() {
        Run run = promise(13, "Returns the previous one.").did(0, "menu", 0, 3).did(3, "menu", 0, 3).did(3, "menu", 0, 0);
        run.did(0, "menu", 0, 1).did(0, "menu", 1, 2).did(1, "menu", 0, 2).due(5, "undo").did(1, "menu", 0, 0);
    }

    private static void menuOfNoDay() {
        Run run = promise(13, "Throws IndexOutOfBoundsException if there is no such day").did(0, "menu", 0, 1);
        run.did(0, "menu", 39, 1).refusedEach(INDEX, values(-1, 40, LOWEST, HIGHEST), "menu", EACH, 0);
        run.refusedEach(INDEX, values(-1, 40), "menu", EACH, 4).due(0, "days", 40).refusedEach(INDEX, values(-1, 40), "menu", EACH, 0);
    }

    private static void noMenu() {
        Run run = promise(13, "Throws IllegalArgumentException if menu is out of range");
        run.refusedEach(ARGUMENT, values(-1, 4, LOWEST, HIGHEST), "menu", 0, EACH).due(0, "days", 1);
        run.refusedEach(ARGUMENT, values(-1, 4, LOWEST, HIGHEST), "menu", 0, EACH);
    }

    private static void menuOfADayThatWentBy() {
        Run run = promise(13, "Throws IllegalStateException if the day has gone by").did(0, "menu", 0, 1).due(0, "days", 1);
        run.refused(STATE, "menu", 0, 0).did(0, "menu", 1, 1).due(0, "days", 38).refused(STATE, "menu", 38, 0);
        run.did(0, "menu", 39, 1).due(0, "days", 1).refusedEach(STATE, values(0, 20, 38, 39), "menu", EACH, 1);
        run.due(5, "undo").did(1, "menu", 39, 0);
    }

    // Promise 14

    private static void orderedThen() {
        Run run = children(promise(14, "is: whether it is ordered then"), 0);
        run.did(0, "order", 0, 0, false).asked(0, "meal", 0, 0, 0).did(1, "order", 0, 0, true).asked(1, "meal", 0, 0, 0);
        run.did(1, "order", 0, 0, true).asked(1, "meal", 0, 0, 0).did(0, "order", 0, 0, false).asked(0, "meal", 0, 0, 0);
    }

    private static void orderedForTheDay() {
        Run run = children(promise(14, "Returns the meals that are ordered for this day then."), 0, 1, 2, 3, 4, 0, 1, 2, 3, 4, 0, 1);
        run.did(0, "order", 0, 39, false).due(1, "order", 0, 38, true);
        for (int c = 0; c < 12; c++) {
            run.did(c + 1, "order", c, 39, true);
        }
        run.did(12, "order", 0, 39, true);
        for (int c = 11; c >= 0; c--) {
            run.did(c, "order", c, 39, false);
        }
        run.did(0, "order", 5, 39, false);
    }

    private static void orderOfNobody() {
        Run run = promise(14, "Throws IndexOutOfBoundsException if there is no such child or day");
        run.refused(INDEX, "order", 0, 0, true);
        children(run, 0, 0).did(1, "order", 0, 0, true).did(1, "order", 1, 39, true);
        run.refusedEach(INDEX, values(-1, 2, 11, 12, LOWEST, HIGHEST), "order", EACH, 0, true);
        run.refusedEach(INDEX, values(-1, 40, LOWEST, HIGHEST), "order", 0, EACH, true);
        run.refusedEach(INDEX, values(-1, 40), "order", 1, EACH, false).refused(INDEX, "order", 2, 40, true).due(1, "days", 1);
        run.refusedEach(INDEX, values(-1, 2), "order", EACH, 0, true).refusedEach(INDEX, values(-1, 40), "order", 0, EACH, true);
        for (int c = 2; c < 12; c++) {
            run.due(c, "come", 0, 0);
        }
        run.did(2, "order", 11, 39, true).refused(INDEX, "order", 12, 39, true);
    }

    private static void orderForADayThatWentBy() {
        Run run = orders(children(promise(14, "Throws IllegalStateException if the day has gone by"), 0, 1), 0, 0);
        run.due(1, "days", 1).refused(STATE, "order", 0, 0, true).refused(STATE, "order", 0, 0, false);
        run.refused(STATE, "order", 1, 0, true).refused(STATE, "order", 1, 0, false).did(1, "order", 1, 1, true);
        run.due(1, "days", 38).refused(STATE, "order", 1, 38, true).did(1, "order", 1, 39, true).due(1, "days", 1);
        run.refusedEach(STATE, values(0, 1, 38, 39), "order", 1, EACH, false);
        run.refusedEach(STATE, values(0, 1, 38, 39), "order", 0, EACH, true);
    }

    // Promise 15

    private static void paidInAndOut() {
        Run run = children(promise(15, "Pays in to a balance, or out of it."), 0, 0).did(1, "pay", 0, 1).asked(1, "about", 8);
        run.did(0, "pay", 0, -1).asked(0, "about", 8).did(7, "pay", 1, 7).asked(0, "child", 0, 2).asked(7, "about", 11);
    }

    private static void amounts() {
        Run run = children(promise(15, "amount: -9999 to 9999, not 0"), 0).did(1, "pay", 0, 1).did(0, "pay", 0, -1);
        run.did(9999, "pay", 0, 9999).did(0, "pay", 0, -9999).refused(ARGUMENT, "pay", 0, 0).did(9999, "pay", 0, 9999);
        run.did(10000, "pay", 0, 1).refusedEach(ARGUMENT, values(0, 10000, -10000), "pay", 0, EACH);
    }

    private static void balanceAfterPaying() {
        Run run = orders(children(promise(15, "Returns its balance then."), 0, 0), 0, 0, 1).did(5, "pay", 1, 5);
        run.due(2, "days", 2).did(-499, "pay", 0, 1).did(0, "pay", 0, 499).did(9, "pay", 0, 9).did(3, "pay", 0, -6);
        run.did(4, "pay", 1, -1);
        for (int i = 1; i <= 200; i++) {
            run.due(3 + 9999 * i, "pay", 0, 9999);
        }
    }

    private static void payOfNobody() {
        Run run = promise(15, "Throws IndexOutOfBoundsException if there is no such child").refused(INDEX, "pay", 0, 1);
        children(run, 0, 0).did(1, "pay", 0, 1).did(1, "pay", 1, 1);
        run.refusedEach(INDEX, values(-1, 2, 11, 12, LOWEST, HIGHEST), "pay", EACH, 1);
        run.refusedEach(INDEX, values(-1, 2), "pay", EACH, 0).refusedEach(INDEX, values(-1, 2), "pay", EACH, -5);
        for (int c = 2; c < 12; c++) {
            run.due(c, "come", 0, 0);
        }
        run.did(1, "pay", 11, 1).refused(INDEX, "pay", 12, 1);
    }

    private static void amountOutOfRange() {
        Run run = children(promise(15, "Throws IllegalArgumentException if amount is out of range"), 0);
        run.refusedEach(ARGUMENT, values(0, 10000, -10000, 10001, LOWEST, HIGHEST), "pay", 0, EACH);
        run.due(9999, "pay", 0, 9999).due(19998, "pay", 0, 9999);
        run.refusedEach(ARGUMENT, values(0, 10000, -10000, LOWEST, HIGHEST), "pay", 0, EACH).did(9999, "pay", 0, -9999);
    }

    private static void paidOutTooMuch() {
        String sentence = "Throws IllegalStateException if amount is below 0, and the balance would be below 0";
        Run run = children(promise(15, sentence), 0, 0).due(900, "pay", 1, 900).refused(STATE, "pay", 0, -1);
        run.refused(STATE, "pay", 0, -9999).due(100, "pay", 0, 100).refused(STATE, "pay", 0, -101).did(0, "pay", 0, -100);
        run.refused(STATE, "pay", 0, -1);
        // In a debt nothing can be paid out, but something in, though it stays below 0.
        Run debt = orders(children(promise(15, sentence), 0), 0, 0, 1).due(2, "days", 2).refused(STATE, "pay", 0, -1);
        debt.did(-499, "pay", 0, 1).refused(STATE, "pay", 0, -1).did(-1, "pay", 0, 498).did(0, "pay", 0, 1);
        debt.refused(STATE, "pay", 0, -1).did(1, "pay", 0, 1).did(0, "pay", 0, -1);
    }

    // Promise 16

    private static void movedToASibling() {
        Document.quote("Promise 16", "- c: child");
        Run run = children(promise(16, "Moves an amount from a child to a sibling."), 0, 1, 0).due(9, "pay", 0, 9);
        run.did(0, "move", 0, 2, 9).asked(9, "child", 2, 2).asked(0, "child", 0, 2).asked(9, "about", 8).asked(9, "about", 11);
        run.did(8, "move", 2, 0, 1).asked(1, "child", 0, 2).asked(0, "child", 1, 2).asked(9, "family", 0, 2);
        // In a family that does not share, and to one in debt.
        Run debt = orders(children(run.another(), 0, 0), 0, 0, 1).due(2, "days", 2).due(600, "pay", 1, 600);
        debt.did(100, "move", 1, 0, 500).asked(0, "child", 0, 2).due(2, "come", 0, 0).did(0, "move", 1, 2, 100);
    }

    private static void movedAmounts() {
        Run run = children(promise(16, "amount: 1 to 9999"), 0, 0).due(9999, "pay", 0, 9999).did(0, "move", 0, 1, 9999);
        run.did(9998, "move", 1, 0, 1).asked(1, "child", 0, 2).refused(ARGUMENT, "move", 1, 0, 0);
        run.refused(ARGUMENT, "move", 1, 0, 10000);
    }

    private static void balanceAfterMoving() {
        Run run = children(promise(16, "Returns the balance of c then."), 0, 0).due(9999, "pay", 0, 9999);
        run.due(19998, "pay", 0, 9999).did(9999, "move", 0, 1, 9999).did(0, "move", 0, 1, 9999).did(19997, "move", 1, 0, 1);
    }

    private static void moveOfNobody() {
        Run run = promise(16, "Throws IndexOutOfBoundsException if there is no such child").refused(INDEX, "move", 0, 0, 1);
        children(run, 0).due(9, "pay", 0, 9).refused(INDEX, "move", 0, 1, 1).refused(INDEX, "move", 1, 0, 1);
        run.due(1, "come", 0, 0).did(8, "move", 0, 1, 1).did(0, "move", 1, 0, 1);
        run.refusedEach(INDEX, values(-1, 2, 12, LOWEST, HIGHEST), "move", EACH, 0, 1);
        run.refusedEach(INDEX, values(-1, 2, 12, LOWEST, HIGHEST), "move", 0, EACH, 1);
        run.refusedEach(INDEX, values(-1, 2, 12), "move", EACH, EACH, 1).refusedEach(INDEX, values(-1, 2), "move", EACH, 0, 0);
        run.refusedEach(INDEX, values(-1, 2), "move", 0, EACH, 10000);
        for (int c = 2; c < 12; c++) {
            run.due(c, "come", 0, 0);
        }
        run.did(8, "move", 0, 11, 1).did(0, "move", 11, 0, 1).refused(INDEX, "move", 12, 0, 1).refused(INDEX, "move", 0, 12, 1);
    }

    private static void movedAmountOutOfRange() {
        Run run = children(promise(16, "Throws IllegalArgumentException if amount is out of range"), 0, 0, 1);
        run.due(9999, "pay", 0, 9999).due(19998, "pay", 0, 9999);
        run.refusedEach(ARGUMENT, values(0, -1, 10000, -9999, LOWEST, HIGHEST), "move", 0, 1, EACH);
        run.refusedEach(ARGUMENT, values(0, 10000), "move", 0, 0, EACH);
        run.refusedEach(ARGUMENT, values(0, 10000), "move", 0, 2, EACH);
        run.refusedEach(ARGUMENT, values(0, 10000), "move", 1, 0, EACH);
    }

    private static void movedToWhoIsNoSibling() {
        Run run = promise(16, "Throws IllegalStateException if both are the same, or not of the same family,");
        Document.quote("Promise 16", "- other: another child of its family");
        children(run, 0, 1, 0).due(9, "pay", 0, 9).due(9, "pay", 1, 9).due(9, "share", 0, true).due(9, "share", 1, true);
        run.refused(STATE, "move", 0, 0, 1).refused(STATE, "move", 1, 1, 1).refused(STATE, "move", 0, 1, 1);
        run.refused(STATE, "move", 1, 0, 1).refused(STATE, "move", 1, 2, 1).refused(STATE, "move", 0, 0, 9);
        run.did(8, "move", 0, 2, 1);
    }

    private static void movedTooMuch() {
        Run run = children(promise(16, "or the balance of c would be below 0"), 0, 0).refused(STATE, "move", 0, 1, 1);
        run.due(100, "pay", 0, 100).refused(STATE, "move", 0, 1, 101).refused(STATE, "move", 0, 1, 9999);
        run.did(0, "move", 0, 1, 100).refused(STATE, "move", 0, 1, 1).refused(STATE, "move", 1, 0, 101);
        orders(run, 0, 0).due(1, "days", 1).refused(STATE, "move", 0, 1, 1).did(0, "move", 1, 0, 100);
        run.refused(STATE, "move", 0, 1, 1).due(0, "pay", 0, 150).refused(STATE, "move", 0, 1, 1).due(1, "pay", 0, 1);
        run.did(0, "move", 0, 1, 1);
    }

    // Promise 17

    private static void sharesThen() {
        Run run = promise(17, "is: whether it shares then").did(0, "share", 0, false).asked(0, "family", 0, 1);
        run.did(0, "share", 0, true).asked(1, "family", 0, 1).did(0, "share", 0, true).asked(1, "family", 0, 1);
        run.did(0, "share", 0, false).asked(0, "family", 0, 1).asked(0, "family", 1, 1);
    }

    private static void sumOfTheFamily() {
        Run run = children(promise(17, "Returns the sum of its balances."), 4, 0, 4).did(0, "share", 4, true);
        orders(orders(run, 0, 0, 1), 2, 0).due(7, "pay", 1, 7).due(3, "days", 2).did(-750, "share", 4, true);
        run.did(7, "share", 0, false).due(250, "pay", 2, 500).did(-250, "share", 4, false).due(0, "pay", 0, 500);
        run.did(250, "share", 4, false).did(0, "share", 3, true);
    }

    private static void shareOfNoFamily() {
        Run run = promise(17, "Throws IndexOutOfBoundsException if there is no such family").did(0, "share", 0, true);
        run.did(0, "share", 4, true).refusedEach(INDEX, values(-1, 5, LOWEST, HIGHEST), "share", EACH, true);
        run.refusedEach(INDEX, values(-1, 5, LOWEST, HIGHEST), "share", EACH, false);
    }

    // Promise 18

    private static void firstDays() {
        Run run = children(promise(18, "from: first day, 0 to 39"), 0).did(0, "entitle", 0, 0, 39).asked(0, "child", 0, 3);
        run.did(0, "entitle", 0, 39, 39).asked(39, "child", 0, 3).refused(INDEX, "entitle", 0, -1, 39);
        run.refused(INDEX, "entitle", 0, 40, 40).refused(INDEX, "entitle", 0, 40, NONE).refused(INDEX, "entitle", 0, -1, NONE);
        run.did(0, "entitle", 0, 39, NONE).did(0, "entitle", 0, 0, NONE);
    }

    private static void lastDays() {
        Run run = ordersFromTo(children(promise(18, "to: last day, from to 39, or NONE: it is entitled on no day"), 0), 0, 0, 39);
        run.due(500, "set", 1, 9999).due(250, "set", 0, 100).due(40, "days", 40);
        for (int from : values(0, 1, 20, 38, 39)) {
            run.did(100, "entitle", 0, from, from).asked(from, "child", 0, 4);
            run.did(100 * (39 - from), "entitle", 0, from, 39).asked(39, "child", 0, 4);
            if (from > 0) {
                run.refused(ARGUMENT, "entitle", 0, from, from - 1);
            }
            run.refused(ARGUMENT, "entitle", 0, from, 40).refused(ARGUMENT, "entitle", 0, from, -2);
            run.did(-100 * (40 - from), "entitle", 0, from, NONE).asked(NONE, "child", 0, 3).asked(NONE, "child", 0, 4);
        }
    }

    private static void howMuchGreater() {
        Run run = children(promise(18, "Returns how much greater the sum of all balances is by that."), 0, 0);
        orders(run, 0, 0, 1).due(500, "set", 1, 250).due(0, "share", 0, true).due(250, "pay", 1, 250).due(2, "days", 2);
        // Nothing, more to itself, more to the sibling, nothing, less, and more and less that are nothing together.
        run.did(0, "entitle", 0, 2, 39).did(250, "entitle", 0, 0, 0).did(250, "entitle", 0, 0, 1).did(0, "entitle", 0, 0, 39);
        run.did(-250, "entitle", 0, 1, 1).did(0, "entitle", 0, 0, 0).did(250, "entitle", 0, 0, 1).due(250, "set", 0, 1);
        run.did(-2, "entitle", 0, 2, 39).did(2, "entitle", 0, 0, 39).asked(250, "about", 11);
    }

    private static void entitlementOfNobody() {
        Run run = promise(18, "Throws IndexOutOfBoundsException if there is no such child, or from is no day");
        run.refused(INDEX, "entitle", 0, 0, 0);
        children(run, 0, 0).did(0, "entitle", 1, 39, 39).refusedEach(INDEX, values(-1, 2, 12, LOWEST, HIGHEST), "entitle", EACH, 0, 0);
        run.refusedEach(INDEX, values(-1, 40, LOWEST, HIGHEST), "entitle", 0, EACH, 39);
        run.refusedEach(INDEX, values(-1, 40, LOWEST, HIGHEST), "entitle", 0, EACH, NONE);
        run.refusedEach(INDEX, values(-1, 40, LOWEST, HIGHEST), "entitle", 0, EACH, EACH);
        run.refusedEach(INDEX, values(-1, 2), "entitle", EACH, 0, 40).refused(INDEX, "entitle", 2, 40, 41);
        run.refused(INDEX, "entitle", 0, 40, -2);
    }

    private static void lastDayOutOfRange() {
        Run run = children(promise(18, "Throws IllegalArgumentException if to is out of range"), 0);
        run.refusedEach(ARGUMENT, values(-2, 40, LOWEST, HIGHEST), "entitle", 0, 0, EACH);
        run.refusedEach(ARGUMENT, values(-2, 0, 37, 38, 40), "entitle", 0, 39, EACH).refused(ARGUMENT, "entitle", 0, 1, 0);
        run.did(0, "entitle", 0, 1, 1).did(0, "entitle", 0, 39, 39).did(0, "entitle", 0, 1, NONE);
    }

    // Promise 19

    private static void writtenOff() {
        Run run = promise(19, "Writes a debt off: each balance of the family that is below 0 becomes 0.");
        children(run, 4, 4, 3, 4, 4).due(250, "set", 0, 1);
        orders(orders(orders(run, 0, 0), 1, 0, 1), 2, 0).due(4, "days", 2).due(1, "pay", 3, 1).did(3, "writeOff", 4);
        run.asked(0, "child", 0, 2).asked(0, "child", 1, 2).asked(-1, "child", 2, 2).asked(1, "child", 3, 2);
        run.asked(0, "child", 4, 2).asked(0, "family", 4, 3).asked(1, "family", 3, 3).asked(1, "about", 8);
        // The meals are charged as before, and what it cost then is paid back, if it becomes free.
        run.asked(2, "child", 1, 7).did(2, "entitle", 1, 0, 39).asked(2, "child", 1, 2);
    }

    private static void howMuchIsWrittenOff() {
        Run run = orders(children(promise(19, "Returns how much is written off."), 0, 0, 0), 0, 0, 1, 2).due(250, "set", 0, 1);
        run.due(9, "pay", 1, 9).due(1, "days", 1).did(1, "writeOff", 0).due(1, "set", 0, 500).due(1, "days", 1);
        run.did(500, "writeOff", 0).asked(501, "family", 0, 4).asked(501, "about", 10);
        // The greatest debt of a child with one entitlement: 40 meals for 999.
        Run great = ordersFromTo(children(run.another(), 2), 0, 0, 39).due(0, "entitle", 0, 0, 39).due(40, "days", 40);
        great.due(250, "set", 0, 999).due(-39960, "entitle", 0, 0, NONE).did(39960, "writeOff", 2);
    }

    private static void writeOffOfNoFamily() {
        Run run = promise(19, "Throws IndexOutOfBoundsException if there is no such family");
        orders(orders(children(run, 0, 4), 0, 0), 1, 0).due(2, "days", 1);
        run.refusedEach(INDEX, values(-1, 5, LOWEST, HIGHEST), "writeOff", EACH).did(250, "writeOff", 0).did(250, "writeOff", 4);
    }

    private static void writeOffWithoutADebt() {
        Run run = promise(19, "Throws IllegalStateException if it has no debt").refused(STATE, "writeOff", 0);
        orders(children(run, 0, 1, 0), 0, 0).due(9, "pay", 1, 9).refused(STATE, "writeOff", 0).refused(STATE, "writeOff", 1);
        run.due(1, "days", 1).refused(STATE, "writeOff", 1).refused(STATE, "writeOff", 4).due(-1, "pay", 0, 249);
        run.did(1, "writeOff", 0).refused(STATE, "writeOff", 0).due(7, "undo").due(0, "pay", 0, 1).refused(STATE, "writeOff", 0);
        // A sibling's money is no help against a debt.
        Run both = orders(children(run.another(), 0, 0), 0, 0).due(9999, "pay", 1, 9999).due(1, "days", 1);
        both.did(250, "writeOff", 0).asked(9999, "child", 1, 2).refused(STATE, "writeOff", 0);
    }

    // Promise 20

    private static void oneToFortyDays() {
        Run run = promise(20, "n: 1 to 40").did(0, "days", 1).asked(1, "about", 0).did(0, "days", 39).asked(40, "about", 0);
        run.another().did(0, "days", 40).asked(40, "about", 0);
        run.another().did(0, "days", 39).asked(39, "about", 0).did(0, "days", 1).asked(40, "about", 0);
        run.another().refused(ARGUMENT, "days", 0).refused(ARGUMENT, "days", 41);
    }

    private static void servedInTheDays() {
        Run run = children(promise(20, "Returns how many meals are served in them."), 0, 1).due(2, "come", 2, 1);
        ordersFromTo(orders(orders(run, 0, 0, 1, 2), 2, 4, 5), 1, 0, 39).due(0, "entitle", 1, 3, 39).due(0, "menu", 4, 3);
        // Charged, free and refused ones, then one that is unsuited, then the rest.
        run.did(2, "days", 1).did(2, "days", 1).did(0, "days", 1).did(1, "days", 1).did(1, "days", 1).did(2, "days", 1);
        run.did(34, "days", 34).asked(42, "about", 3);
        run.another().did(0, "days", 40);
    }

    private static void daysOutOfRange() {
        Run run = promise(20, "Throws IllegalArgumentException if n is out of range");
        run.refusedEach(ARGUMENT, values(0, -1, 41, LOWEST, HIGHEST), "days", EACH).due(0, "days", 40);
        run.refusedEach(ARGUMENT, values(0, -1, 41, LOWEST, HIGHEST), "days", EACH);
    }

    private static void notSoManyDaysLeft() {
        for (int gone : values(1, 2, 20, 38, 39)) {
            Run run = children(promise(20, "Throws IllegalStateException if there are not so many days left"), 0);
            orders(run, 0, 39).due(0, "days", gone).refused(STATE, "days", 41 - gone).refused(STATE, "days", 40);
            run.did(1, "days", 40 - gone).refused(STATE, "days", 1).refused(STATE, "days", 40);
        }
    }

    // Promise 21

    private static void settings() {
        Run run = promise(21, "what: 0 or 1").did(250, "set", 0, 7).did(500, "set", 1, 8).asked(7, "setting", 0);
        run.asked(8, "setting", 1).refused(ARGUMENT, "set", -1, 7).refused(ARGUMENT, "set", 2, 7);
    }

    private static void valuesOfSettings() {
        Run run = promise(21, "v: the new value, in its range").did(250, "set", 0, 1).did(1, "set", 0, 999);
        run.refused(ARGUMENT, "set", 0, 0).refused(ARGUMENT, "set", 0, 1000).did(500, "set", 1, 0).did(0, "set", 1, 9999);
        run.refused(ARGUMENT, "set", 1, -1).refused(ARGUMENT, "set", 1, 10000).did(9999, "set", 1, 1000);
    }

    private static void previousSetting() {
        Run run = promise(21, "Returns the previous one.").did(250, "set", 0, 999).did(500, "set", 1, 999).did(999, "set", 0, 999);
        run.did(999, "set", 1, 0).did(0, "set", 1, 9999).due(4, "undo").did(0, "set", 1, 1).did(999, "set", 0, 1);
    }

    private static void settingOutOfRange() {
        Run run = promise(21, "Throws IllegalArgumentException if what or v is out of range");
        run.refusedEach(ARGUMENT, values(-1, 2, LOWEST, HIGHEST), "set", EACH, 1);
        run.refusedEach(ARGUMENT, values(0, 1000, 9999, -1, LOWEST, HIGHEST), "set", 0, EACH);
        run.refusedEach(ARGUMENT, values(-1, 10000, LOWEST, HIGHEST), "set", 1, EACH).refused(ARGUMENT, "set", 2, 10000);
    }

    // Promise 22

    private static void takenBack() {
        Run run = children(promise(22, "Takes back the last action that is remembered."), 0, 0).due(250, "set", 0, 1);
        run.due(5, "pay", 0, 5).due(3, "undo").asked(0, "child", 0, 2).asked(1, "setting", 0).due(2, "undo");
        run.asked(250, "setting", 0).asked(2, "about", 1).due(1, "undo").asked(1, "about", 1).due(0, "undo");
        run.stateLike(new Run("a new object"));
        // What a meal cost and who paid, when it has become free and was charged anew since.
        Run paid = children(run.another(), 0, 0).due(500, "set", 1, 0).due(0, "share", 0, true).due(250, "pay", 1, 250);
        orders(paid, 0, 0).due(1, "days", 1).due(250, "entitle", 0, 0, 0).due(250, "set", 0, 300);
        paid.due(-300, "entitle", 0, 1, 1).asked(0, "meal", 0, 0, 2).due(9, "undo").due(8, "undo").due(7, "undo");
        paid.asked(1, "meal", 0, 0, 2).asked(250, "meal", 0, 0, 1).did(250, "entitle", 0, 0, 0).asked(250, "child", 1, 2);
        // The first child, day and family as well as the last ones.
        Run edges = children(run.another(), 0, 0, 0, 0, 0, 0, 0, 0, 0, 0, 0).did(11, "come", 4, 3).did(1, "order", 0, 0, true);
        edges.did(1, "order", 11, 39, true).did(0, "menu", 0, 3).did(0, "menu", 39, 3).did(0, "share", 0, true);
        edges.did(0, "share", 4, true).did(0, "entitle", 0, 0, 0).did(0, "entitle", 11, 39, 39).did(9, "pay", 11, 9);
        edges.did(1, "days", 1).did(0, "days", 39).did(-250, "entitle", 0, 39, 39).did(250, "writeOff", 0);
        edges.did(250, "set", 0, 999).did(500, "set", 1, 0).did(9, "pay", 0, 9).did(0, "move", 0, 10, 9);
    }

    private static void stillRemembered() {
        for (int actions : values(1, 2, 13, 14, 15)) {
            Run run = promise(22, "Returns how many states are still remembered.");
            for (int i = 0; i < actions; i++) {
                run.due(0, "share", 0, i % 2 == 0);
            }
            for (int left = Math.min(actions, 14) - 1; left >= 0; left--) {
                run.due(left, "undo");
            }
        }
    }

    private static void nothingToTakeBack() {
        String sentence = "Throws IllegalStateException if none is remembered";
        Run run = promise(22, sentence).refused(STATE, "undo").did(0, "share", 0, true).due(0, "undo").refused(STATE, "undo");
        run.refused(ARGUMENT, "days", 0).refused(STATE, "undo").text("S").due(0, "save", 0).refused(STATE, "undo");
        run.due(0, "come", 0, 0).due(0, "load").refused(STATE, "undo").due(0, "save", 1).due(0, "come", 0, 0);
        run.due(0, "restore", 1).refused(STATE, "undo");
        Run many = promise(22, sentence);
        for (int i = 0; i < 15; i++) {
            many.due(0, "share", 0, i % 2 == 0);
        }
        for (int left = 13; left >= 0; left--) {
            many.due(left, "undo");
        }
        many.refused(STATE, "undo").asked(1, "family", 0, 1).did(0, "share", 0, false).due(0, "undo").refused(STATE, "undo");
    }
}
