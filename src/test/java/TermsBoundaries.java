/** The boundary cases of the section "Terms", but for those of the text. */
final class TermsBoundaries extends Boundaries {
    private TermsBoundaries() {
    }

    static void testAll() {
        fiveHundredAndTwelveCalls();
        fiveFamilies();
        twelveChildren();
        theNumbersOfChildren();
        fourDiets();
        balancesBelowZero();
        sharingAtFirst();
        fortyDays();
        todayAtFirst();
        whenTheLastDayHasGoneBy();
        menusAtFirst();
        whichMenuSuits();
        whichDaysCanBeOrdered();
        whoOrderedIsServed();
        theFirstThatApplies();
        unsuited();
        free();
        ownBalance();
        sibling();
        siblingOfSeveral();
        refused();
        whatIsKept();
        settings();
        entitledDays();
        whichDaysAreSettled();
        paidBack();
        chargedAfterwards();
        whatTheStateIs();
        whatAnActionIs();
        beforeEachAction();
        fourteenStates();
        whatIsNoAction();
        whatDoesNotExist();
        whatIsOutOfRange();
        whichExceptionIsFirst();
        whatThrowsChangesNothing();
        theConstant();
        nothingToTest();
    }

    private static void nothingToTest() {
        Document.quote("What it is", "Accounts of school meals: children of families with diets, menus that suit them or"
                + " not, meals that are ordered, served, charged or free by entitlement, siblings who pay for one another,"
                + " debts with a limit, entitlement that begins in the past, with what was charged paid back to whoever"
                + " paid it, debts that are written off.");
        Document.quote("What it is", "what later calls answer is free.");
        String[] sentences = {
            "It tells on which day a child is not served any more, what a family needs, what entitlement would bring."
                + " Changes can be undone.",
            "CHILDREN AND FAMILIES", "DAYS AND MENUS", "ORDERS AND SERVING", "ENTITLEMENT", "TEXT", "ACTIONS AND UNDO",
            "EXCEPTIONS", "The constants:",
            "Ahead of the calls append, clearText, errorPosition, load the interface says: ---- text.",
            "Ahead of the calls about, child, family, day, meal, setting the interface says: ---- what there is.",
            "Ahead of the calls come, menu, order, pay, move, share, entitle, writeOff, days, set, undo the interface"
                + " says: ---- actions.",
            "Ahead of the calls runScript, simulate the interface says: ---- scripts, simulations.",
            "Ahead of the calls save, restore the interface says: ---- save slots.",
        };
        for (String sentence : sentences) {
            Document.quote("Terms", sentence);
        }
    }

    private static void fiveHundredAndTwelveCalls() {
        String sentence = "An object is used for at most 512 calls after it has been made;";
        Run run = of("What it is", sentence).due(0, "come", 0, 0);
        for (int i = 1; i <= 510; i++) {
            run.due(i, "pay", 0, 1);
        }
        run.due(13, "undo");
        Run asked = of("What it is", sentence).due(0, "come", 0, 0);
        for (int i = 1; i <= 510; i++) {
            asked.due(0, "needs", 0);
        }
        asked.due(0, "days", 40);
        Run thrown = of("What it is", sentence);
        for (int i = 1; i <= 511; i++) {
            thrown.call("undo");
        }
        thrown.due(0, "come", 0, 0);
        Run text = of("What it is", sentence);
        for (int i = 1; i <= 511; i++) {
            text.call("append", (int) 'S');
        }
        text.due(120, "clearText");
    }

    private static void fiveFamilies() {
        Run run = terms("There are 5 families, numbered from 0");
        for (int f = 0; f < 5; f++) {
            run.due(f, "come", f, 0).asked(1, "family", f, 0).did(0, "share", f, true).asked(1, "family", f, 1);
            run.asked(0, "needs", f).refused(STATE, "writeOff", f);
        }
        for (int f : values(-1, 5, LOWEST, HIGHEST)) {
            noSuchFamily(run, f);
        }
    }

    private static void twelveChildren() {
        String sentence = "and at most 12 children,";
        Run run = terms(sentence);
        noSuchChild(run, 0);
        for (int c = 0; c < 12; c++) {
            run.did(c, "come", c % 2, 0).asked(c + 1, "about", 1);
        }
        run.refused(STATE, "come", 0, 0).refused(STATE, "come", 4, 3);
        for (int c : values(0, 11)) {
            run.asked(c % 2, "child", c, 0).asked(0, "meal", c, 39, 0).asked(NONE, "refusedOn", c);
            run.asked(0, "ifEntitled", c, 0, 39).did(1, "order", c, c, true).did(0, "entitle", c, 0, 39);
            int sibling = c == 0 ? 2 : 9;
            run.did(2, "pay", c, 2).did(1, "move", c, sibling, 1).did(0, "move", sibling, c, 1);
        }
        for (int c : values(-1, 12, LOWEST, HIGHEST)) {
            noSuchChild(run, c);
        }
    }

    private static void theNumbersOfChildren() {
        Run run = terms("numbered from 0 in the order in which they came;");
        int[] families = {4, 0, 4, 2, 0};
        children(run, families);
        for (int c = 0; c < families.length; c++) {
            run.asked(families[c], "child", c, 0);
        }
        noSuchChild(run, 5);
        run.due(4, "undo").due(4, "come", 1, 0).asked(1, "child", 4, 0);
    }

    private static void fourDiets() {
        String sentence = "each is of a family, and has a diet: 0: everything, 1: no meat, 2: no milk, 3: neither.";
        Run run = terms(sentence);
        for (int diet = 0; diet <= 3; diet++) {
            run.due(diet, "come", 3, diet).asked(diet, "child", diet, 1).asked(3, "child", diet, 0);
        }
        run.refusedEach(ARGUMENT, values(-1, 4, LOWEST, HIGHEST), "come", 3, EACH);
    }

    private static void balancesBelowZero() {
        Run run = terms("Each child has a balance (of pence), at first 0, and perhaps below 0.");
        children(run, 1).asked(0, "child", 0, 2).asked(0, "about", 11).asked(0, "family", 1, 2);
        run.due(250, "set", 0, 1).due(1, "order", 0, 0, true).due(1, "days", 1).asked(-1, "child", 0, 2);
        run.asked(-1, "about", 11).asked(-1, "family", 1, 2).asked(1, "family", 1, 3).did(0, "pay", 0, 1);
        run.asked(0, "family", 1, 3);
    }

    private static void sharingAtFirst() {
        Run run = terms("A family can share, or not (at first it does not).");
        children(run, 0, 0, 4, 4).due(500, "set", 1, 0);
        run.due(1000, "pay", 1, 1000).due(1000, "pay", 3, 1000);
        run.askedEach(0, values(0, 1, 2, 3, 4), "family", EACH, 1);
        orders(orders(run, 0, 0, 1, 2), 2, 0, 1, 2).due(0, "days", 1).due(1000, "share", 4, true);
        run.asked(0, "family", 0, 1).asked(1, "family", 4, 1).due(1, "days", 1).asked(3, "meal", 2, 1, 2);
        run.due(750, "share", 4, false).asked(0, "family", 4, 1).due(0, "days", 1);
    }

    private static void fortyDays() {
        Run run = children(terms("There are 40 days, 0 to 39;"), 0);
        for (int d : values(0, 39)) {
            run.asked(0, "day", d, 0).asked(0, "meal", 0, d, 0).did(0, "menu", d, 2).asked(2, "day", d, 0);
            run.did(1, "order", 0, d, true).asked(1, "meal", 0, d, 0).did(0, "entitle", 0, d, d);
            run.asked(d, "child", 0, 3).asked(0, "ifEntitled", 0, d, NONE);
        }
        for (int d : values(-1, 40, LOWEST, HIGHEST)) {
            noSuchDay(run, d);
        }
        run.refused(ARGUMENT, "days", 41).did(2, "days", 40);
    }

    private static void todayAtFirst() {
        Run run = terms("today is the day 0 at first;");
        run.asked(0, "about", 0).did(0, "menu", 0, 1).did(0, "days", 1).asked(1, "about", 0).refused(STATE, "menu", 0, 1);
        terms("today is the day 0 at first;").text("S").due(0, "load").asked(0, "about", 0);
    }

    private static void whenTheLastDayHasGoneBy() {
        Run run = children(terms("when the last day has gone by, today is 40, and nothing is served any more."), 0);
        ordersFromTo(run, 0, 36, 39).due(500, "set", 1, 751).due(3, "days", 39).asked(39, "about", 0).asked(1, "about", 2);
        run.asked(39, "refusedOn", 0).asked(300, "needs", 0).asked(0, "ifPrice", 250).asked(1, "ifPrice", 1);
        run.did(0, "menu", 39, 0).did(1, "order", 0, 39, true).did(0, "days", 1).asked(40, "about", 0);
        run.asked(0, "about", 2).asked(3, "about", 3).asked(1, "about", 6);
        for (int n : values(1, 2, 40)) {
            run.refused(STATE, "days", n);
        }
        run.refused(STATE, "menu", 39, 0).refused(STATE, "order", 0, 39, true).refused(STATE, "order", 0, 39, false);
        run.asked(NONE, "refusedOn", 0).asked(0, "needs", 0).asked(0, "ifPrice", 1).asked(0, "bestEntitled");
        run.asked(0, "runScript", 1, 600001).asked(0, "runScript", 1, 100391);
        for (long seed = 0; seed < 12; seed++) {
            run.due(0, "simulate", seed, 99);
        }
    }

    private static void menusAtFirst() {
        Run run = terms("Each day has a menu: with meat or not, with milk or not (at first it is without both).");
        for (int d = 0; d < 40; d++) {
            run.due(0, "day", d, 0);
        }
        run.due(0, "come", 0, 3);
        ordersFromTo(run, 0, 0, 1).due(2, "days", 2).did(0, "menu", 39, 3).asked(3, "day", 39, 0).asked(0, "day", 38, 0);
    }

    private static void whichMenuSuits() {
        boolean[][] suits = {{true, true, true, true}, {true, false, true, false}, {true, true, false, false},
            {true, false, false, false}};
        for (int diet = 0; diet <= 3; diet++) {
            Run run = terms("A menu suits a diet if it has nothing that this diet leaves out.").due(0, "come", 0, diet);
            run.due(1000, "pay", 0, 1000);
            for (int menu = 0; menu <= 3; menu++) {
                run.due(1, "order", 0, menu, true).due(0, "menu", menu, menu);
                run.due(suits[diet][menu] ? 1 : 0, "days", 1).asked(suits[diet][menu] ? 2 : 5, "meal", 0, menu, 0);
            }
        }
    }

    private static void whichDaysCanBeOrdered() {
        Run run = children(terms("A child orders a meal for today or a later day, or has not ordered it."), 0, 1);
        run.due(0, "days", 5);
        for (int d : values(5, 6, 38, 39)) {
            run.asked(0, "meal", 1, d, 0).did(1, "order", 1, d, true).asked(1, "meal", 1, d, 0);
            run.asked(0, "meal", 0, d, 0).did(0, "order", 1, d, false).asked(0, "meal", 1, d, 0);
        }
        run.refusedEach(STATE, values(0, 1, 3, 4), "order", 1, EACH, true);
        run.refusedEach(STATE, values(0, 4), "order", 1, EACH, false);
    }

    private static void whoOrderedIsServed() {
        String sentence = "When a day goes by, for each child, ascending, that ordered a meal for it, one of these happens,";
        // Only 300 are there: the lower child is served, in whichever order they came to order.
        Run run = children(terms(sentence), 0, 0, 0, 0).due(500, "set", 1, 0).due(300, "pay", 3, 300);
        run.due(300, "share", 0, true).due(1, "order", 2, 0, true).due(2, "order", 1, 0, true).due(1, "days", 1);
        run.asked(2, "meal", 1, 0, 0).asked(4, "meal", 2, 0, 0).asked(0, "meal", 0, 0, 0).asked(0, "meal", 3, 0, 0);
        run.asked(0, "meal", 1, 1, 0);
        // Day by day, not child by child.
        Run days = children(terms(sentence), 0, 0).due(500, "set", 1, 0).due(300, "pay", 1, 300).due(0, "share", 1, true);
        days.due(300, "share", 0, true).due(1, "order", 0, 1, true).due(1, "order", 1, 0, true).due(1, "days", 2);
        days.asked(4, "meal", 0, 1, 0).asked(2, "meal", 1, 0, 0);
        // The first child and the last one, on the first day and the last one.
        Run edges = children(terms(sentence), 0, 0, 0, 0, 0, 0, 0, 0, 0, 0, 0, 0);
        orders(orders(edges, 0, 0, 39), 11, 0, 39).due(2, "days", 1).due(0, "days", 38).due(2, "days", 1);
        edges.asked(-500, "child", 0, 2).asked(-500, "child", 11, 2).asked(0, "child", 5, 2);
        // An order that was taken back is none.
        Run back = orders(children(terms(sentence), 0), 0, 0).due(0, "order", 0, 0, false).due(0, "days", 1);
        back.asked(0, "meal", 0, 0, 0).asked(0, "child", 0, 2).asked(0, "about", 6);
    }

    /** Each child is such that two or more of the five apply to its meal. */
    private static void theFirstThatApplies() {
        Run run = terms("the first one that applies:");
        run.due(0, "come", 0, 1).due(1, "come", 0, 1).due(2, "come", 0, 1).due(3, "come", 1, 1).due(4, "come", 0, 0);
        run.due(5, "come", 0, 0).due(6, "come", 0, 0).due(7, "come", 0, 0).due(8, "come", 2, 2).due(500, "set", 1, 0);
        run.due(0, "share", 0, true).due(0, "menu", 0, 1);
        for (int c = 0; c <= 8; c++) {
            run.due(c + 1, "order", c, 0, true);
        }
        run.due(300, "pay", 1, 300).due(300, "pay", 4, 300).due(300, "pay", 6, 300).due(9000, "pay", 7, 9000);
        run.due(0, "entitle", 0, 0, 39).due(0, "entitle", 4, 0, 39).due(0, "entitle", 5, 0, 39).due(0, "entitle", 8, 0, 0);
        run.due(5, "days", 1);
        // 1 before 2, 3, 4 and 5; 2 before 3, 4 and 5; 3 before 4; 4 before 5 is tested by the next day.
        int[] became = {5, 5, 5, 5, 3, 3, 2, 2, 3};
        for (int c = 0; c <= 8; c++) {
            run.asked(became[c], "meal", c, 0, 0);
        }
        run.asked(6, "meal", 6, 0, 2).asked(8750, "child", 7, 2).asked(50, "child", 6, 2).asked(300, "child", 4, 2);
        run.due(1, "order", 6, 1, true).due(1, "days", 1).asked(7, "meal", 6, 1, 2).asked(50, "child", 6, 2);
    }

    private static void unsuited() {
        Run run = terms("1: the menu does not suit its diet: it is not served (unsuited).");
        run.due(0, "come", 0, 1).due(1, "come", 1, 2).due(300, "pay", 0, 300).due(0, "menu", 0, 1).due(0, "menu", 39, 3);
        orders(orders(run, 0, 0, 39), 1, 0, 39).due(1, "days", 1).asked(5, "meal", 0, 0, 0).asked(2, "meal", 1, 0, 0);
        run.asked(NONE, "meal", 0, 0, 1).asked(NONE, "meal", 0, 0, 2).asked(300, "child", 0, 2).asked(1, "about", 7);
        run.asked(0, "child", 0, 5).asked(0, "child", 0, 8).asked(0, "about", 6).due(0, "days", 39).asked(3, "about", 7);
        run.asked(5, "meal", 1, 39, 0).asked(300, "child", 0, 2);
    }

    private static void free() {
        Run run = children(terms("2: the child is entitled on this day: it is served free."), 0);
        run.due(500, "set", 1, 0).due(0, "entitle", 0, 1, 3);
        ordersFromTo(run, 0, 0, 4).due(3, "days", 5);
        run.asked(4, "meal", 0, 0, 0).asked(3, "meal", 0, 1, 0).asked(3, "meal", 0, 2, 0).asked(3, "meal", 0, 3, 0);
        run.asked(4, "meal", 0, 4, 0).asked(0, "child", 0, 2).asked(0, "meal", 0, 2, 1).asked(NONE, "meal", 0, 2, 2);
        run.asked(3, "child", 0, 5).asked(3, "about", 5).asked(0, "about", 4);
    }

    /** It must be served with this balance, and refused with one pence less. */
    private static void edgeOfTheLimit(int price, int limit, int mealsBefore, int paid) {
        String sentence = "3: its balance less the price is not below 0 less the limit: it is served, and charged to its own"
                + " balance.";
        for (int less = 0; less <= 1; less++) {
            Run run = children(terms(sentence), 0).due(250, "set", 0, price).due(500, "set", 1, limit);
            ordersFromTo(run, 0, 0, mealsBefore).due(mealsBefore, "days", mealsBefore);
            if (paid - less > 0) {
                run.call("pay", 0, paid - less);
            }
            run.due(1 - less, "days", 1).asked(less == 0 ? 2 : 4, "meal", 0, mealsBefore, 0);
            run.asked(less == 0 ? price : NONE, "meal", 0, mealsBefore, 1);
            run.asked(less == 0 ? 0 : NONE, "meal", 0, mealsBefore, 2);
            run.asked(less == 0 ? -limit : price - limit - 1, "child", 0, 2);
        }
    }

    private static void ownBalance() {
        edgeOfTheLimit(250, 500, 2, 250);
        edgeOfTheLimit(999, 9999, 10, 990);
        edgeOfTheLimit(1, 9, 9, 1);
        edgeOfTheLimit(400, 1000, 2, 200);
        String sentence = "3: its balance less the price is not below 0 less the limit: it is served, and charged to its own"
                + " balance.";
        // Without a limit the balance must be the price.
        for (int price : values(1, 2, 250, 999)) {
            Run run = orders(children(terms(sentence), 0), 0, 0, 1).due(500, "set", 1, 0).due(250, "set", 0, price);
            if (price > 1) {
                run.due(price - 1, "pay", 0, price - 1);
            }
            run.due(0, "days", 1).due(price, "pay", 0, 1).due(1, "days", 1).asked(0, "child", 0, 2);
        }
        // A limit that is the price is enough at first, one that is less is not.
        Run first = orders(children(terms(sentence), 0), 0, 0, 1).due(500, "set", 1, 249).due(0, "days", 1);
        first.due(249, "set", 1, 250).due(1, "days", 1).asked(-250, "child", 0, 2);
        // Siblings that have more do not pay as long as it can be charged itself.
        Run own = orders(children(terms(sentence), 0, 0), 0, 0, 1).due(0, "share", 0, true).due(9999, "pay", 1, 9999);
        own.due(2, "days", 2).asked(-500, "child", 0, 2).asked(9999, "child", 1, 2).asked(0, "child", 0, 6);
    }

    private static final String SIBLING = "4: its family shares, and a sibling (another child of the family) has a balance of"
            + " at least the price: it is served,";

    private static void sibling() {
        // One pence too little, the price, and one more; the limit is none of the sibling's.
        for (int balance : values(249, 250, 251)) {
            Run run = orders(children(terms(SIBLING), 2, 2), 0, 0, 1, 2).due(balance, "pay", 1, balance);
            run.due(balance, "share", 2, true).due(balance >= 250 ? 3 : 2, "days", 3).asked(-500, "child", 0, 2);
            run.asked(balance >= 250 ? 1 : NONE, "meal", 0, 2, 2);
            run.asked(balance >= 250 ? balance - 250 : balance, "child", 1, 2);
        }
        // A family that does not share, does not any more, or another one that does.
        Run not = orders(children(terms(SIBLING), 2, 2, 3), 0, 0, 1, 2, 3).due(500, "set", 1, 0).due(900, "pay", 1, 900);
        not.due(900, "pay", 2, 900).due(900, "share", 3, true).due(0, "days", 1).due(900, "share", 2, true).due(1, "days", 1);
        not.due(650, "share", 2, false).due(0, "days", 1).due(650, "share", 2, true).due(900, "share", 3, false);
        not.due(1, "days", 1).asked(400, "child", 1, 2).asked(900, "child", 2, 2);
        // No other child of the family, or only ones without money.
        Run alone = orders(children(terms(SIBLING), 2, 3), 0, 0, 1).due(500, "set", 1, 0).due(249, "pay", 0, 249);
        alone.due(249, "share", 2, true).due(9999, "pay", 1, 9999).due(0, "days", 1).due(2, "come", 2, 0);
        alone.due(249, "pay", 2, 249).due(0, "days", 1).asked(249, "child", 0, 2).asked(9999, "child", 1, 2);
        // The sibling may be the lowest child or the last one.
        Run ends = children(terms(SIBLING), 2, 1, 1, 1, 1, 1, 1, 1, 1, 1, 1, 2).due(500, "set", 1, 0).due(0, "share", 2, true);
        ends.due(250, "pay", 0, 250).due(1, "order", 11, 0, true).due(1, "days", 1).asked(0, "meal", 11, 0, 2);
        ends.due(250, "pay", 11, 250).due(1, "order", 0, 1, true).due(1, "days", 1).asked(11, "meal", 0, 1, 2);
    }

    private static void siblingOfSeveral() {
        int[][] balances = {{300, 300, 300}, {299, 300, 300}, {299, 299, 300}, {300, 299, 300}, {301, 300, 301},
            {250, 249, 250}, {249, 250, 250}, {0, 249, 250}, {9999, 9999, 9998}, {251, 250, 252}};
        int[] due = {1, 2, 3, 1, 1, 1, 2, 3, 1, 3};
        for (int i = 0; i < due.length; i++) {
            Run run = terms("and charged to the sibling with the greatest balance, of several the lowest child.");
            children(run, 0, 0, 0, 0, 1).due(500, "set", 1, 0).due(0, "share", 0, true).due(9999, "pay", 4, 9999);
            for (int c = 1; c <= 3; c++) {
                if (balances[i][c - 1] > 0) {
                    run.call("pay", c, balances[i][c - 1]);
                }
            }
            run.due(1, "order", 0, 0, true).due(1, "days", 1).asked(due[i], "meal", 0, 0, 2).asked(0, "child", 0, 2);
            for (int c = 1; c <= 3; c++) {
                run.asked(balances[i][c - 1] - (c == due[i] ? 250 : 0), "child", c, 2);
            }
        }
        // A child that is higher than its siblings, too.
        Run last = terms("and charged to the sibling with the greatest balance, of several the lowest child.");
        children(last, 0, 0, 0, 0).due(500, "set", 1, 0).due(0, "share", 0, true).due(300, "pay", 1, 300);
        last.due(300, "pay", 2, 300).due(1, "order", 3, 0, true).due(1, "days", 1).asked(1, "meal", 3, 0, 2);
    }

    private static void refused() {
        Run run = terms("5: otherwise it is not served (refused).");
        orders(children(run, 0, 0), 0, 0).due(500, "set", 1, 249).due(249, "pay", 1, 249).due(249, "share", 0, true);
        run.due(0, "days", 1).asked(4, "meal", 0, 0, 0).asked(NONE, "meal", 0, 0, 1).asked(NONE, "meal", 0, 0, 2);
        run.asked(0, "child", 0, 2).asked(249, "child", 1, 2).asked(1, "child", 0, 8).asked(0, "child", 0, 5);
        run.asked(1, "about", 6).asked(0, "about", 3).asked(0, "about", 7);
    }

    private static void whatIsKept() {
        Run run = terms("What became of each such meal is kept: what it cost then, and who paid.");
        children(run, 0, 0).due(500, "set", 1, 0).due(2000, "pay", 1, 2000).due(2000, "share", 0, true);
        orders(run, 0, 0, 1).due(250, "set", 0, 1).due(1, "days", 1).due(1, "set", 0, 999).due(1, "days", 1);
        run.due(999, "set", 0, 300).due(1000, "share", 0, false).due(0, "pay", 1, -1000).due(5, "pay", 0, 5);
        run.due(0, "days", 38).asked(1, "meal", 0, 0, 1).asked(999, "meal", 0, 1, 1).asked(1, "meal", 0, 0, 2);
        run.asked(1, "meal", 0, 1, 2).asked(1000, "child", 1, 7).asked(1000, "about", 9).due(1000, "entitle", 0, 0, 1);
        run.asked(1000, "child", 1, 2).asked(5, "child", 0, 2);
    }

    private static void settings() {
        String price = "There are settings: 0: the price, 1 to 999, at first 250;";
        Run run = terms(price).asked(250, "setting", 0).did(250, "set", 0, 999).did(999, "set", 0, 1).asked(1, "setting", 0);
        run.refusedEach(ARGUMENT, values(0, 1000, -1, LOWEST, HIGHEST), "set", 0, EACH);
        Run limit = terms("1: the limit, 0 to 9999, at first 500.").asked(500, "setting", 1).did(500, "set", 1, 9999);
        limit.did(9999, "set", 1, 0).asked(0, "setting", 1).asked(250, "setting", 0);
        limit.refusedEach(ARGUMENT, values(-1, 10000, LOWEST, HIGHEST), "set", 1, EACH);
        run.refusedEach(ARGUMENT, values(-1, 2, LOWEST, HIGHEST), "set", EACH, 5);
        run.refusedEach(ARGUMENT, values(-1, 2, LOWEST, HIGHEST), "setting", EACH);
    }

    private static void entitledDays() {
        int[][] ranges = {{0, 0}, {0, 1}, {0, 39}, {2, 2}, {1, 3}, {5, 39}, {38, 38}, {39, 39}};
        for (int[] range : ranges) {
            Run run = terms("A child is entitled on a range of days, or on none (at first).");
            run.due(0, "come", 0, 0).asked(NONE, "child", 0, 3).asked(NONE, "child", 0, 4).due(500, "set", 1, 0);
            ordersFromTo(run, 0, 0, 39).due(0, "entitle", 0, range[0], range[1]);
            run.asked(range[0], "child", 0, 3).asked(range[1], "child", 0, 4).due(range[1] - range[0] + 1, "days", 40);
            for (int d = 0; d < 40; d++) {
                run.due(range[0] <= d && d <= range[1] ? 3 : 4, "meal", 0, d, 0);
            }
        }
        Run none = terms("A child is entitled on a range of days, or on none (at first).").due(0, "come", 0, 0);
        none.due(500, "set", 1, 0);
        ordersFromTo(none, 0, 0, 39).due(0, "entitle", 0, 0, 39).due(0, "entitle", 0, 3, NONE).due(0, "days", 40);
    }

    private static void whichDaysAreSettled() {
        Run run = terms("When that is changed, for each day that went by, ascending, on which it was served:");
        run.due(0, "come", 0, 1).due(500, "set", 1, 0).due(500, "pay", 0, 500).due(0, "menu", 1, 1);
        orders(run, 0, 0, 1, 3, 4, 5, 6).due(2, "days", 5).asked(0, "child", 0, 2);
        // Charged on 0 and 3, unsuited on 1, not ordered on 2, refused on 4; 5 is today, 6 is to come.
        int[] became = {3, 5, 0, 3, 4, 1, 1};
        run.did(500, "entitle", 0, 0, 39);
        for (int d = 0; d <= 6; d++) {
            run.asked(became[d], "meal", 0, d, 0);
        }
        int[] again = {2, 5, 0, 2, 4, 1, 1};
        run.did(-500, "entitle", 0, 0, NONE);
        for (int d = 0; d <= 6; d++) {
            run.asked(again[d], "meal", 0, d, 0);
        }
        // The very last day that went by, and the last one of all.
        run.due(9999, "pay", 0, 9999).due(2, "days", 2).due(250, "entitle", 0, 6, 39).asked(3, "meal", 0, 6, 0);
        run.due(1, "order", 0, 39, true).due(-250, "entitle", 0, 5, NONE).due(1, "days", 33);
        run.did(250, "entitle", 0, 39, 39).asked(3, "meal", 0, 39, 0).did(-250, "entitle", 0, 7, 38);
        // Other children are left as they are.
        Run other = orders(orders(children(run.another(), 0, 0), 0, 0), 1, 0).due(2, "days", 1);
        other.due(250, "entitle", 0, 0, 39).asked(2, "meal", 1, 0, 0).asked(-250, "child", 1, 2);
    }

    private static void paidBack() {
        Run run = terms("if it was charged, and the child is entitled on it now, it becomes free, and what it cost then is"
                + " paid back to the balance of whoever paid it;");
        children(run, 0, 0, 0).due(500, "set", 1, 0).due(0, "share", 0, true);
        ordersFromTo(run, 0, 0, 3).due(250, "pay", 0, 250).due(1, "days", 1).due(250, "set", 0, 1);
        run.due(2, "pay", 1, 2).due(1, "days", 1).due(1, "set", 0, 999).due(1001, "pay", 2, 1001).due(1, "days", 1);
        run.due(0, "days", 1).asked(0, "child", 0, 2).asked(1, "child", 1, 2).asked(2, "child", 2, 2);
        // Day 0 was charged to itself, 1 to child 1, 2 to child 2; 3 was refused.
        run.did(0, "entitle", 0, 3, 39).did(999, "entitle", 0, 2, 39).asked(1001, "child", 2, 2).asked(1, "child", 1, 2);
        run.did(1, "entitle", 0, 1, 2).asked(2, "child", 1, 2).asked(0, "child", 0, 2).asked(3, "meal", 0, 1, 0);
        run.asked(2, "meal", 0, 0, 0).did(250, "entitle", 0, 0, 2).asked(250, "child", 0, 2).asked(1001, "child", 2, 2);
        run.asked(0, "meal", 0, 0, 1).asked(NONE, "meal", 0, 0, 2).did(0, "entitle", 0, 0, 39).asked(0, "about", 9);
        run.asked(1253, "about", 8).asked(1253, "about", 11);
    }

    private static void chargedAfterwards() {
        Run run = terms("if it was free, and the child is not entitled on it any more, it is charged to its own balance with"
                + " the price of now, however low that becomes.");
        children(run, 0, 0).due(500, "set", 1, 0).due(9999, "pay", 1, 9999).due(9999, "share", 0, true);
        ordersFromTo(run, 0, 0, 39).due(0, "entitle", 0, 0, 39).due(40, "days", 40).due(250, "set", 0, 999);
        // Neither the limit nor the sibling's money counts.
        run.did(-999, "entitle", 0, 1, 39).asked(-999, "child", 0, 2).asked(9999, "child", 1, 2).asked(0, "meal", 0, 0, 2);
        run.due(999, "set", 0, 1).did(-1, "entitle", 0, 1, 38).asked(-1000, "child", 0, 2).asked(999, "meal", 0, 0, 1);
        run.asked(1, "meal", 0, 39, 1).asked(3, "meal", 0, 1, 0).asked(3, "meal", 0, 38, 0).due(1, "set", 0, 999);
        run.did(-999 * 38, "entitle", 0, 0, NONE).asked(-1000 - 999 * 38, "child", 0, 2).asked(40, "about", 4);
        run.asked(1000 + 999 * 38, "about", 9).did(1000 + 999 * 38, "entitle", 0, 0, 39).asked(0, "child", 0, 2);
    }

    private static void whatTheStateIs() {
        Run run = terms("The methods in the section \"actions\" change the state, which consists of everything but the text and"
                + " the save slots.");
        run.due(0, "save", 0).text("Sc00").due(0, "come", 1, 1).due(5, "append", 0).due(5, "clearText").text("Sd1");
        run.due(0, "save", 1).due(0, "undo").asked(NONE, "errorPosition").asked(0, "about", 1).due(3, "clearText");
        run.due(0, "restore", 1).asked(1, "about", 1).due(0, "restore", 0).asked(0, "about", 1);
    }

    private static void whatAnActionIs() {
        Run run = terms("Each call of one of them that does not throw an exception is an action, also if nothing becomes"
                + " different (undo is none).");
        children(run, 0, 0).due(1, "order", 0, 0, true);
        run.did(0, "menu", 0, 0).did(1, "order", 0, 0, true).did(0, "order", 0, 1, false).did(0, "share", 0, false);
        run.did(0, "entitle", 0, 7, NONE).did(0, "entitle", 0, 3, 4).did(0, "entitle", 0, 3, 4).did(250, "set", 0, 250);
        run.did(500, "set", 1, 500).due(11, "undo").due(10, "undo").due(9, "undo");
        run.did(1, "pay", 0, 1).did(0, "move", 0, 1, 1).did(1, "days", 1).did(2, "come", 0, 0);
        run.due(12, "undo").due(11, "undo").did(1, "share", 0, true).did(1, "share", 0, true);
        Run owing = orders(children(run.another(), 0), 0, 0).due(1, "days", 1).did(250, "writeOff", 0).did(0, "days", 1);
        owing.due(4, "undo").due(3, "undo").due(2, "undo").due(1, "undo").due(0, "undo").refused(STATE, "undo");
    }

    private static void beforeEachAction() {
        Run run = children(terms("Before each action, the state is remembered."), 0);
        run.due(5, "pay", 0, 5).due(12, "pay", 0, 7).due(2, "undo").asked(5, "child", 0, 2).due(8, "pay", 0, 3);
        run.due(2, "undo").asked(5, "child", 0, 2).due(1, "undo").asked(0, "child", 0, 2).due(0, "undo");
        // What throws was no action, so nothing is remembered before it.
        run.refused(INDEX, "pay", 0, 1).refused(ARGUMENT, "days", 0).refused(STATE, "undo");
    }

    private static void fourteenStates() {
        for (int actions : values(0, 1, 2, 13, 14, 15, 16, 27, 28, 29, 42, 43, 100)) {
            Run run = terms("At most 14 states are remembered; when one more is remembered, the oldest one is forgotten.");
            run.due(0, "come", 0, 0).due(0, "save", 0).due(0, "restore", 0);
            for (int i = 1; i <= actions; i++) {
                run.due(i, "pay", 0, 1);
            }
            int remembered = Math.min(actions, 14);
            for (int i = 1; i <= remembered; i++) {
                run.due(remembered - i, "undo").due(actions - i, "child", 0, 2);
            }
            run.refused(STATE, "undo").asked(actions - remembered, "child", 0, 2);
        }
        // The oldest ones stay forgotten though newer ones are taken back.
        Run run = terms("At most 14 states are remembered; when one more is remembered, the oldest one is forgotten.");
        run.due(0, "come", 0, 0);
        for (int i = 1; i <= 20; i++) {
            run.due(i, "pay", 0, 1);
        }
        run.due(13, "undo").due(12, "undo").due(11, "undo").did(18, "pay", 0, 1).did(19, "pay", 0, 1).did(20, "pay", 0, 1);
        run.did(21, "pay", 0, 1);
        for (int i = 1; i <= 14; i++) {
            run.due(14 - i, "undo").due(21 - i, "child", 0, 2);
        }
        run.refused(STATE, "undo");
    }

    private static void whatIsNoAction() {
        Run run = terms("load and restore are not actions.").due(0, "come", 0, 0).due(0, "save", 0).text("Sc00d1");
        run.due(0, "load").refused(STATE, "undo").due(1, "save", 1).due(0, "days", 1).due(1, "restore", 1);
        run.refused(STATE, "undo").did(0, "days", 1).due(0, "load").refused(STATE, "undo");
        Run asked = children(terms("these and all following methods up to the save slots change nothing."), 0);
        Document.quote("Terms", "Ahead of the calls refusedOn, needs, ifEntitled, ifPrice, bestEntitled the interface says:"
                + " ---- what would be;");
        orders(asked, 0, 0, 1, 2).due(2, "days", 3).did(1, "order", 0, 4, true).asked(4, "refusedOn", 0);
        asked.asked(300, "needs", 0).asked(500, "ifEntitled", 0, 0, 39).asked(0, "ifPrice", 1);
        asked.asked(0, "bestEntitled").asked(NONE, "runScript", 3, 500000200999600005L).asked(NONE, "runScript", 1, 600037);
        for (long seed = 0; seed < 8; seed++) {
            asked.asked(Long.parseLong(Call.of("simulate", seed, 99).on(asked.again())), "simulate", seed, 99);
        }
        asked.asked(3, "about", 0).asked(4, "refusedOn", 0);
    }

    private static void whatDoesNotExist() {
        Run run = terms("IndexOutOfBoundsException means that a child, a family or a day does not exist, or that a save slot is"
                + " not 0 or 1.");
        noSuchChild(run, 0);
        run.due(0, "come", 0, 0).asked(0, "child", 0, 0);
        noSuchChild(run, 1);
        noSuchChild(run, -1);
        noSuchFamily(run, -1);
        noSuchFamily(run, 5);
        noSuchDay(run, -1);
        noSuchDay(run, 40);
        run.refusedEach(INDEX, values(-1, 2), "save", EACH).refusedEach(INDEX, values(-1, 2), "restore", EACH);
        run.due(0, "save", 0).due(0, "save", 1).due(0, "restore", 0).due(0, "restore", 1);
        run.refusedEach(INDEX, values(-1, 2), "restore", EACH);
    }

    private static void whatIsOutOfRange() {
        Run run = children(terms("IllegalArgumentException means that another argument is out of its range."), 0, 0);
        for (int outside : values(-1, LOWEST, HIGHEST)) {
            run.refused(ARGUMENT, "append", outside).refused(ARGUMENT, "about", outside);
            run.refused(ARGUMENT, "child", 0, outside).refused(ARGUMENT, "family", 0, outside);
            run.refused(ARGUMENT, "day", 0, outside).refused(ARGUMENT, "meal", 0, 0, outside);
            run.refused(ARGUMENT, "setting", outside).refused(ARGUMENT, "come", 0, outside);
            run.refused(ARGUMENT, "menu", 0, outside).refused(ARGUMENT, "move", 0, 1, outside);
            run.refused(ARGUMENT, "days", outside).refused(ARGUMENT, "set", outside, 1).refused(ARGUMENT, "set", 0, outside);
            run.refused(ARGUMENT, "set", 1, outside).refused(ARGUMENT, "ifPrice", outside);
            run.refused(ARGUMENT, "runScript", outside, 0).refused(ARGUMENT, "simulate", 0, outside);
        }
        for (int outside : values(-2, 40, LOWEST, HIGHEST)) {
            run.refused(ARGUMENT, "entitle", 0, 0, outside).refused(ARGUMENT, "ifEntitled", 0, 0, outside);
        }
        run.refusedEach(ARGUMENT, values(0, 10000, -10000, LOWEST, HIGHEST), "pay", 0, EACH).refused(ARGUMENT, "runScript", 1, -1);
    }

    private static void whichExceptionIsFirst() {
        Run run = terms("If several exceptions apply to a call, the one that its description names first is thrown.");
        // The text is full, there are 12 children, day 0 has gone by, nobody has a balance or a debt.
        run.text("S" + "c00".repeat(39) + "h0").due(27, "load").due(0, "days", 1);
        run.refused(STATE, "append", 0).refused(ARGUMENT, "append", 256).refused(STATE, "come", 0, 0);
        run.refused(ARGUMENT, "come", 0, 4).refused(INDEX, "come", 5, 0).refused(INDEX, "come", 5, 4);
        run.refused(INDEX, "child", 12, 9).refused(INDEX, "family", 5, 5).refused(INDEX, "day", 40, 4);
        run.refused(INDEX, "meal", 12, 0, 3).refused(INDEX, "meal", 0, 40, 3).refused(STATE, "menu", 0, 0);
        run.refused(ARGUMENT, "menu", 0, 4).refused(INDEX, "menu", 40, 4).refused(STATE, "order", 0, 0, true);
        run.refused(INDEX, "order", 12, 0, true).refused(INDEX, "order", 12, 40, false).refused(INDEX, "order", 0, -1, true);
        run.refused(STATE, "pay", 0, -1).refused(ARGUMENT, "pay", 0, -10000).refused(INDEX, "pay", 12, -1);
        run.refused(INDEX, "pay", 12, -10000).refused(STATE, "move", 0, 0, 1).refused(STATE, "move", 0, 1, 1);
        run.refused(ARGUMENT, "move", 0, 0, 0).refused(ARGUMENT, "move", 0, 1, 10000).refused(INDEX, "move", 12, 12, 1);
        run.refused(INDEX, "move", 0, 12, 0).refused(INDEX, "move", 12, 0, 10000).refused(INDEX, "entitle", 12, 0, 40);
        run.refused(INDEX, "entitle", 0, 40, 40).refused(INDEX, "entitle", 0, -1, -2).refused(ARGUMENT, "entitle", 0, 0, 40);
        run.refused(INDEX, "writeOff", 5).refused(STATE, "writeOff", 0).refused(ARGUMENT, "days", 41);
        run.refused(STATE, "days", 40).refused(INDEX, "ifEntitled", 12, 0, 40).refused(INDEX, "ifEntitled", 0, 40, 40);
        run.refused(STATE, "restore", 0).refused(STATE, "restore", 1).refused(INDEX, "restore", 2);
    }

    private static void whatThrowsChangesNothing() {
        Run run = terms("A call that throws an exception changes nothing.");
        Document.quote("Terms", "IllegalStateException means what the method says.");
        children(run, 0, 0, 1).due(0, "save", 0).due(0, "share", 0, true).due(250, "set", 0, 300).due(0, "entitle", 2, 0, 0);
        orders(orders(orders(run, 0, 0, 1, 2, 9), 1, 0, 9), 2, 0, 1).due(20, "pay", 1, 20).due(4, "days", 2).text("Sx");
        run.due(270, "pay", 0, 570);
        run.refused(STATE, "load").refused(ARGUMENT, "append", 256).refused(STATE, "restore", 1).refused(INDEX, "restore", 2);
        run.refused(INDEX, "save", 2).refused(INDEX, "come", 5, 0).refused(ARGUMENT, "come", 0, 4);
        run.refused(STATE, "menu", 1, 3).refused(ARGUMENT, "menu", 2, 4).refused(STATE, "order", 0, 1, false);
        run.refused(STATE, "pay", 1, -1).refused(ARGUMENT, "pay", 1, 10000).refused(STATE, "move", 0, 1, 271);
        run.refused(STATE, "move", 0, 2, 1).refused(ARGUMENT, "move", 0, 1, 0).refused(INDEX, "move", 0, 3, 1);
        run.refused(INDEX, "share", 5, false).refused(ARGUMENT, "entitle", 0, 1, 0).refused(INDEX, "entitle", 0, 40, NONE);
        run.refused(STATE, "writeOff", 3).refused(STATE, "days", 39).refused(ARGUMENT, "days", 0);
        run.refused(ARGUMENT, "set", 0, 1000).refused(ARGUMENT, "set", 2, 1).refused(ARGUMENT, "runScript", 1, 1000000);
        run.refused(ARGUMENT, "simulate", 1, 100).refused(ARGUMENT, "ifPrice", 1000).refused(INDEX, "needs", 5);
        run.refused(INDEX, "refusedOn", 3).refused(ARGUMENT, "ifEntitled", 0, 9, 8).refused(INDEX, "child", 3, 0);
    }

    private static void theConstant() {
        terms("NONE = -1: There is no such result.").asked(-1, "bestEntitled");
        if (MealAccounts.NONE != -1) {
            Run.fault("NONE is " + MealAccounts.NONE);
        }
    }
}
