/** Promises 20 and 22: days that go by, with serving, and undo. */
public final class DaysAndUndoTest {
    private static final int NONE = Run.NONE;
    private static final int LOWEST = Integer.MIN_VALUE;
    private static final int HIGHEST = Integer.MAX_VALUE;
    private static final Class<?> ARGUMENT = Run.ARGUMENT;
    private static final Class<?> STATE = Run.STATE;

    private DaysAndUndoTest() {
    }

    public static void main(String[] args) {
        promise20Days();
        promise20WrongInputs();
        promise20Unsuited();
        promise20Free();
        promise20OwnBalance();
        promise20Sibling();
        promise20WhichSibling();
        promise20ChildrenAscending();
        promise22Undo();
        promise22Fourteen();
        promise22WhatIsNoAction();
        Run.end();
    }

    private static void promise20Days() {
        Run run = new Run("promise 20");
        run.due(0, "come", 0, 0).due(5000, "pay", 0, 5000);
        for (int d = 0; d < 40; d += 3) {
            run.due(1, "order", 0, d, true);
        }
        run.did(1, "days", 1).did(0, "days", 1).did(1, "days", 2).did(2, "days", 6).asked(10, "about", 0);
        run.asked(4000, "child", 0, 2).asked(10, "about", 2).did(10, "days", 30).asked(40, "about", 0);
        run.asked(14, "about", 3).asked(0, "about", 2).asked(1500, "about", 11).asked(3500, "about", 9);
        new Run("promise 20, all at once").did(0, "days", 40).asked(40, "about", 0);
    }

    private static void promise20WrongInputs() {
        Run run = new Run("promise 20, wrong");
        run.due(0, "come", 0, 0).due(1, "order", 0, 39, true);
        for (int n : new int[] {0, -1, 41, LOWEST, HIGHEST}) {
            run.refused(ARGUMENT, "days", n);
        }
        run.due(0, "days", 1).refused(STATE, "days", 40).due(0, "days", 37).refused(STATE, "days", 3);
        run.refused(ARGUMENT, "days", 41).refused(ARGUMENT, "days", 0).did(1, "days", 2);
        run.refused(STATE, "days", 1).refused(STATE, "days", 40).refused(ARGUMENT, "days", 41);
        run.refused(ARGUMENT, "days", 0);
    }

    private static void promise20Unsuited() {
        Run run = new Run("promise 20, unsuited");
        for (int c = 0; c < 4; c++) {
            run.due(c, "come", c, c).due(2000, "pay", c, 2000);
            for (int d = 0; d < 4; d++) {
                run.due(c + 1, "order", c, d, true);
            }
        }
        for (int d = 0; d < 4; d++) {
            run.due(0, "menu", d, d);
        }
        run.due(4, "days", 1).due(2, "days", 1).due(2, "days", 1).due(1, "days", 1);
        int[][] due = {{2, 2, 2, 2}, {2, 5, 2, 5}, {2, 2, 5, 5}, {2, 5, 5, 5}};
        for (int c = 0; c < 4; c++) {
            for (int d = 0; d < 4; d++) {
                run.asked(due[c][d], "meal", c, d, 0);
            }
        }
        run.asked(1000, "child", 0, 2).asked(1500, "child", 1, 2).asked(1750, "child", 3, 2).asked(7, "about", 7);
        run.asked(0, "about", 6);

        // Unsuited comes before entitled and before refused; a later menu changes nothing.
        Run first = new Run("promise 20, unsuited first");
        first.due(0, "come", 0, 1).due(1, "come", 0, 1).due(500, "set", 1, 0).due(0, "entitle", 0, 0, 39);
        first.due(1, "order", 0, 0, true).due(2, "order", 1, 0, true).due(0, "menu", 0, 3).due(0, "days", 1);
        first.asked(5, "meal", 0, 0, 0).asked(5, "meal", 1, 0, 0).asked(0, "about", 6).asked(2, "about", 7);
    }

    private static void promise20Free() {
        Run run = new Run("promise 20, free");
        run.due(0, "come", 0, 0).due(1, "come", 0, 0).due(2000, "pay", 0, 2000).due(0, "entitle", 0, 1, 2);
        for (int d = 0; d < 4; d++) {
            run.due(1, "order", 0, d, true);
        }
        run.due(4, "days", 4).asked(2, "meal", 0, 0, 0).asked(3, "meal", 0, 1, 0).asked(3, "meal", 0, 2, 0);
        run.asked(2, "meal", 0, 3, 0).asked(1500, "child", 0, 2).asked(500, "about", 9);
        // Free comes before charged and refused, however low the balance is.
        Run poor = new Run("promise 20, free and poor");
        poor.due(0, "come", 0, 0).due(1, "order", 0, 0, true).due(1, "days", 1).due(500, "set", 1, 0);
        poor.due(0, "entitle", 0, 1, 1).due(1, "order", 0, 1, true).due(1, "order", 0, 2, true).due(1, "days", 2);
        poor.asked(3, "meal", 0, 1, 0).asked(4, "meal", 0, 2, 0).asked(-250, "child", 0, 2);
    }

    private static void promise20OwnBalance() {
        Run run = new Run("promise 20, own balance");
        run.due(0, "come", 0, 0);
        for (int d = 0; d < 6; d++) {
            run.due(1, "order", 0, d, true);
        }
        run.due(2, "days", 2).asked(-500, "child", 0, 2).due(0, "days", 1).due(-251, "pay", 0, 249);
        run.due(0, "days", 1).due(-250, "pay", 0, 1).due(1, "days", 1).asked(-500, "child", 0, 2);
        run.due(500, "set", 1, 750).due(1, "days", 1).asked(-750, "child", 0, 2).asked(2, "child", 0, 8);
        run.asked(4, "child", 0, 5).asked(1000, "child", 0, 7);
        Run noLimit = new Run("promise 20, without a limit");
        noLimit.due(0, "come", 0, 0).due(500, "set", 1, 0).due(249, "pay", 0, 249).due(1, "order", 0, 0, true);
        noLimit.due(1, "order", 0, 1, true).due(0, "days", 1).due(250, "pay", 0, 1).due(1, "days", 1);
        noLimit.asked(0, "child", 0, 2).asked(4, "meal", 0, 0, 0).asked(2, "meal", 0, 1, 0);
        // What a meal cost then is kept, also when the price changes.
        Run price = new Run("promise 20, price");
        price.due(0, "come", 0, 0).due(9999, "pay", 0, 9999).due(1, "order", 0, 0, true).due(1, "order", 0, 1, true);
        price.due(250, "set", 0, 999).due(1, "days", 1).due(999, "set", 0, 1).due(1, "days", 1);
        price.asked(999, "meal", 0, 0, 1).asked(1, "meal", 0, 1, 1).asked(8999, "child", 0, 2).asked(1000, "about", 9);
    }

    private static void promise20Sibling() {
        // Its own balance comes first, though the sibling's is greater.
        Run own = new Run("promise 20, own first");
        own.due(0, "come", 1, 0).due(1, "come", 1, 0).due(0, "share", 1, true).due(9999, "pay", 1, 9999);
        own.due(1, "order", 0, 0, true).due(1, "order", 0, 1, true).due(1, "order", 0, 2, true).due(3, "days", 3);
        own.asked(-500, "child", 0, 2).asked(9749, "child", 1, 2).asked(0, "meal", 0, 1, 2).asked(1, "meal", 0, 2, 2);
        own.asked(1, "child", 0, 6).asked(0, "child", 1, 6).asked(250, "child", 1, 7).asked(500, "child", 0, 7);

        // The sibling's balance must be at least the price: its own limit does not count.
        Run exact = new Run("promise 20, exact");
        exact.due(0, "come", 1, 0).due(1, "come", 1, 0).due(0, "share", 1, true).due(500, "set", 1, 249);
        exact.due(499, "pay", 0, 499).due(1, "order", 1, 0, true).due(1, "order", 1, 1, true);
        exact.due(1, "order", 1, 2, true).due(1, "days", 1).asked(249, "child", 0, 2).due(0, "days", 1);
        exact.due(250, "pay", 0, 1).due(1, "days", 1).asked(0, "child", 0, 2).asked(4, "meal", 1, 1, 0);
        exact.asked(0, "meal", 1, 2, 2).asked(0, "child", 1, 2);

        // Without sharing, or with money in other families alone, it is refused.
        Run refused = new Run("promise 20, refused");
        refused.due(0, "come", 1, 0).due(1, "come", 1, 0).due(2, "come", 2, 0).due(500, "set", 1, 0);
        refused.due(1000, "pay", 1, 1000).due(1000, "pay", 2, 1000).due(1000, "share", 2, true);
        refused.due(1, "order", 0, 0, true).due(1, "order", 0, 1, true).due(1, "order", 0, 2, true);
        refused.due(0, "days", 1).asked(4, "meal", 0, 0, 0).due(1000, "share", 1, true).due(1, "days", 1);
        refused.due(0, "pay", 1, -750).due(0, "days", 1).asked(1000, "child", 2, 2).asked(2, "child", 0, 8);
    }

    private static void promise20WhichSibling() {
        int[][] balances = {{0, 300, 400, 400}, {0, 400, 300, 400}, {0, 300, 400, 500}, {0, 250, 250, 250},
            {0, 249, 250, 249}, {0, 900, 250, 899}, {0, 0, 0, 250}};
        int[] due = {2, 1, 3, 1, 2, 1, 3};
        for (int i = 0; i < due.length; i++) {
            Run run = new Run("promise 20, which sibling " + i);
            run.due(500, "set", 1, 0).due(0, "share", 3, true);
            for (int c = 0; c < 4; c++) {
                run.due(c, "come", 3, 0);
                if (balances[i][c] > 0) {
                    run.due(balances[i][c], "pay", c, balances[i][c]);
                }
            }
            run.due(4, "come", 2, 0).due(9999, "pay", 4, 9999).due(1, "order", 0, 0, true).due(1, "days", 1);
            run.asked(due[i], "meal", 0, 0, 2).asked(balances[i][due[i]] - 250, "child", due[i], 2);
        }
        // The child itself is none of its siblings, and a lower child can be one.
        Run self = new Run("promise 20, lower sibling");
        self.due(0, "come", 0, 0).due(1, "come", 0, 0).due(500, "set", 1, 0).due(0, "share", 0, true);
        self.due(260, "pay", 0, 260).due(1, "order", 1, 0, true).due(1, "days", 1).asked(0, "meal", 1, 0, 2);
    }

    private static void promise20ChildrenAscending() {
        Run run = new Run("promise 20, ascending");
        run.due(0, "come", 0, 0).due(1, "come", 0, 0).due(2, "come", 0, 0).due(500, "set", 1, 0);
        run.due(0, "share", 0, true).due(400, "pay", 2, 400).due(1, "order", 2, 0, true);
        run.due(2, "order", 1, 0, true).due(3, "order", 0, 0, true).due(1, "days", 1);
        run.asked(2, "meal", 0, 0, 2).asked(4, "meal", 1, 0, 0).asked(4, "meal", 2, 0, 0).asked(150, "child", 2, 2);
        // Day by day: the money of the first days is not there for the later ones.
        Run days = new Run("promise 20, day by day");
        days.due(0, "come", 0, 0).due(1, "come", 0, 0).due(500, "set", 1, 0).due(0, "share", 0, true);
        days.due(300, "pay", 0, 300).due(1, "order", 0, 1, true).due(1, "order", 1, 0, true).due(1, "days", 2);
        days.asked(0, "meal", 1, 0, 2).asked(4, "meal", 0, 1, 0).asked(50, "child", 0, 2);
    }

    private static void promise22Undo() {
        Run run = new Run("promise 22");
        run.refused(STATE, "undo").due(0, "come", 0, 0).due(0, "undo").refused(STATE, "undo");
        run.like(new Run("nothing"));
        run.due(0, "come", 0, 0).due(0, "share", 0, true).due(250, "set", 0, 300).due(500, "set", 1, 299);
        run.due(1, "order", 0, 0, true).due(1, "order", 0, 1, true).due(0, "menu", 1, 3).due(5, "pay", 0, 5);
        run.due(1, "days", 1).due(295, "writeOff", 0).due(300, "entitle", 0, 0, 0).due(1, "come", 0, 2);
        run.due(90, "move", 0, 1, 210).asked(300, "about", 11).due(12, "undo").asked(300, "child", 0, 2);
        run.due(11, "undo").asked(1, "about", 1).due(10, "undo").asked(0, "child", 0, 2).asked(2, "meal", 0, 0, 0);
        run.due(9, "undo").asked(-295, "child", 0, 2).asked(0, "about", 10).due(8, "undo").asked(0, "about", 0);
        run.asked(5, "child", 0, 2).asked(1, "meal", 0, 0, 0).due(7, "undo").asked(0, "about", 8);
        run.due(6, "undo").asked(0, "day", 1, 0).due(5, "undo").asked(0, "day", 1, 1).due(4, "undo");
        run.asked(0, "about", 2).due(3, "undo").asked(500, "setting", 1).due(2, "undo").asked(250, "setting", 0);
        run.due(1, "undo").asked(0, "family", 0, 1).due(0, "undo").asked(0, "about", 1).refused(STATE, "undo");
    }

    private static void promise22Fourteen() {
        Run run = new Run("promise 22, fourteen");
        run.due(0, "come", 0, 0);
        for (int i = 1; i <= 16; i++) {
            run.did(i, "pay", 0, 1);
        }
        for (int left = 13; left >= 0; left--) {
            run.due(left, "undo").due(left + 2, "child", 0, 2);
        }
        run.refused(STATE, "undo").asked(1, "about", 1);
        for (int i = 3; i <= 25; i++) {
            run.due(i, "pay", 0, 1);
        }
        run.due(13, "undo").due(12, "undo").due(11, "undo").due(10, "undo").due(9, "undo").asked(20, "child", 0, 2);
        run.did(0, "share", 1, true).did(0, "share", 1, false).due(10, "undo").due(9, "undo").due(8, "undo");
        run.asked(19, "child", 0, 2);
        for (int left = 7; left >= 0; left--) {
            run.due(left, "undo").due(left + 11, "child", 0, 2);
        }
        run.refused(STATE, "undo");
    }

    private static void promise22WhatIsNoAction() {
        // An action is remembered though nothing becomes different; an undo, a question, a text is not.
        Run run = new Run("promise 22, no action");
        run.due(0, "come", 0, 0).did(0, "share", 0, false).did(0, "menu", 3, 0).did(0, "order", 0, 5, false);
        run.did(250, "set", 0, 250).did(0, "entitle", 0, 0, NONE).asked(1, "about", 1).asked(NONE, "refusedOn", 0);
        run.text("Sc00").due(4, "clearText").due(5, "undo").due(4, "undo").due(3, "undo").due(2, "undo");
        run.due(1, "undo").asked(1, "about", 1);
        run.due(0, "undo").refused(STATE, "undo").refused(ARGUMENT, "days", 0).refused(STATE, "writeOff", 0);
        run.did(0, "come", 1, 0).due(0, "undo").refused(STATE, "undo");
    }
}
