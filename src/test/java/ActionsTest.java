/** Promises 12 to 19 and 21: the actions but for days and undo. */
public final class ActionsTest {
    private static final int NONE = Run.NONE;
    private static final int LOWEST = Integer.MIN_VALUE;
    private static final int HIGHEST = Integer.MAX_VALUE;
    private static final Class<?> INDEX = Run.INDEX;
    private static final Class<?> ARGUMENT = Run.ARGUMENT;
    private static final Class<?> STATE = Run.STATE;

    private ActionsTest() {
    }

    public static void main(String[] args) {
        promise12Come();
        promise13Menu();
        promise14Order();
        promise15Pay();
        promise16Move();
        promise17Share();
        promise18Entitle();
        promise18OfManyChildren();
        promise18WrongInputs();
        promise19WriteOff();
        promise21Set();
        Run.end();
    }

    private static void promise12Come() {
        Run run = new Run("promise 12");
        run.refused(INDEX, "come", -1, 0).refused(INDEX, "come", 5, 0).refused(INDEX, "come", LOWEST, HIGHEST);
        run.refused(INDEX, "come", 5, 4).refused(INDEX, "come", HIGHEST, -1);
        run.refused(ARGUMENT, "come", 0, -1).refused(ARGUMENT, "come", 4, 4);
        run.refused(ARGUMENT, "come", 0, LOWEST).refused(ARGUMENT, "come", 0, HIGHEST);
        for (int c = 0; c < 12; c++) {
            run.did(c, "come", 4 - c % 5, c % 4);
            run.asked(4 - c % 5, "child", c, 0).asked(c % 4, "child", c, 1).due(c + 1, "about", 1);
        }
        run.refused(STATE, "come", 0, 0).refused(STATE, "come", 4, 3);
        run.refused(INDEX, "come", 5, 0).refused(INDEX, "come", -1, 4).refused(ARGUMENT, "come", 0, 4);
        run.due(11, "undo").due(11, "come", 2, 2).asked(2, "child", 11, 0);

        // A number that was taken back begins anew.
        Run again = new Run("promise 12, again");
        again.due(0, "come", 1, 1).due(40, "pay", 0, 40).due(0, "entitle", 0, 2, 3).due(1, "order", 0, 4, true);
        again.due(3, "undo").due(2, "undo").due(1, "undo").due(0, "undo").did(0, "come", 2, 0);
        again.stateLike(new Run("come").call("come", 2, 0));
        // A child can come on any day.
        new Run("promise 12, late").due(0, "days", 40).did(0, "come", 0, 0);
    }

    private static void promise13Menu() {
        Run run = new Run("promise 13");
        run.did(0, "menu", 0, 1).did(1, "menu", 0, 2).did(2, "menu", 0, 3).did(3, "menu", 0, 3).did(3, "menu", 0, 0);
        run.did(0, "menu", 39, 3).asked(3, "day", 39, 0).asked(0, "day", 38, 0).asked(0, "day", 0, 0);
        run.due(0, "days", 2).did(0, "menu", 2, 1).refused(STATE, "menu", 1, 1).refused(STATE, "menu", 0, 0);
        run.refused(ARGUMENT, "menu", 0, 4).refused(ARGUMENT, "menu", 1, -1).refused(ARGUMENT, "menu", 39, 4);
        run.refused(ARGUMENT, "menu", 39, LOWEST).refused(ARGUMENT, "menu", 39, HIGHEST);
        for (int d : new int[] {-1, 40, LOWEST, HIGHEST}) {
            run.refused(INDEX, "menu", d, 0).refused(INDEX, "menu", d, 4).refused(INDEX, "menu", d, -1);
        }
        run.due(0, "days", 38).refused(STATE, "menu", 39, 1).refused(INDEX, "menu", 40, 1);
    }

    private static void promise14Order() {
        Run run = new Run("promise 14");
        run.due(0, "come", 0, 0).due(1, "come", 1, 1).due(2, "come", 1, 2);
        run.did(1, "order", 0, 0, true).did(2, "order", 2, 0, true).did(2, "order", 2, 0, true);
        run.did(1, "order", 0, 39, true).asked(1, "meal", 0, 39, 0).asked(1, "meal", 2, 0, 0);
        run.did(1, "order", 2, 0, false).did(1, "order", 2, 0, false).asked(0, "meal", 2, 0, 0);
        run.did(2, "order", 1, 0, true).did(0, "order", 1, 20, false).did(0, "menu", 0, 1).due(1, "days", 1);
        run.refused(STATE, "order", 0, 0, true).refused(STATE, "order", 0, 0, false);
        run.refused(STATE, "order", 1, 0, false).refused(STATE, "order", 2, 0, true);
        run.did(1, "order", 1, 1, true).did(2, "order", 0, 1, true);
        for (int c : new int[] {-1, 3, 12, LOWEST, HIGHEST}) {
            run.refused(INDEX, "order", c, 0, true).refused(INDEX, "order", c, 5, false);
            run.refused(INDEX, "order", c, 40, true);
        }
        for (int d : new int[] {-1, 40, LOWEST, HIGHEST}) {
            run.refused(INDEX, "order", 0, d, true).refused(INDEX, "order", 2, d, false);
        }
        run.due(2, "days", 39).refused(STATE, "order", 0, 39, true).refused(STATE, "order", 0, 39, false);
        run.refused(INDEX, "order", 0, 40, true).refused(INDEX, "order", 3, 39, true);
    }

    private static void promise15Pay() {
        Run run = new Run("promise 15");
        run.due(0, "come", 0, 0).due(1, "come", 1, 0);
        run.did(9999, "pay", 0, 9999).did(10000, "pay", 0, 1).did(1, "pay", 0, -9999).did(0, "pay", 0, -1);
        run.refused(STATE, "pay", 0, -1).refused(STATE, "pay", 0, -9999).asked(0, "about", 8);
        run.did(30, "pay", 1, 30).refused(STATE, "pay", 1, -31).did(0, "pay", 1, -30).did(5, "pay", 1, 5);
        run.asked(5, "about", 8).asked(5, "child", 1, 2).asked(0, "child", 0, 2);
        for (int amount : new int[] {0, 10000, -10000, LOWEST, HIGHEST}) {
            run.refused(ARGUMENT, "pay", 0, amount).refused(ARGUMENT, "pay", 1, amount);
        }
        for (int c : new int[] {-1, 2, 12, LOWEST, HIGHEST}) {
            run.refused(INDEX, "pay", c, 1).refused(INDEX, "pay", c, 0).refused(INDEX, "pay", c, -10000);
        }
        // A debt can be paid in part, but nothing is paid out of it.
        run.due(1, "order", 0, 0, true).due(1, "days", 1).did(-150, "pay", 0, 100);
        run.refused(STATE, "pay", 0, -1).did(-149, "pay", 0, 1).did(1, "pay", 0, 150);
    }

    private static void promise16Move() {
        Run run = new Run("promise 16");
        run.due(0, "come", 0, 0).due(1, "come", 1, 0).due(2, "come", 0, 0);
        run.due(9999, "pay", 0, 9999).due(10098, "pay", 0, 99).due(500, "pay", 1, 500);
        run.did(10097, "move", 0, 2, 1).did(98, "move", 0, 2, 9999).asked(10000, "child", 2, 2);
        run.refused(STATE, "move", 0, 2, 99).did(0, "move", 0, 2, 98).refused(STATE, "move", 0, 2, 1);
        run.did(10088, "move", 2, 0, 10).asked(10, "child", 0, 2).asked(10598, "about", 8).asked(10598, "about", 11);
        run.refused(STATE, "move", 2, 2, 1).refused(STATE, "move", 2, 1, 1).refused(STATE, "move", 1, 0, 1);
        run.refused(STATE, "move", 1, 1, 501).refused(STATE, "move", 1, 2, 501);
        for (int amount : new int[] {0, -1, 10000, LOWEST, HIGHEST}) {
            run.refused(ARGUMENT, "move", 2, 0, amount).refused(ARGUMENT, "move", 2, 2, amount);
            run.refused(ARGUMENT, "move", 2, 1, amount);
        }
        for (int c : new int[] {-1, 3, 12, LOWEST, HIGHEST}) {
            run.refused(INDEX, "move", c, 0, 1).refused(INDEX, "move", 0, c, 1).refused(INDEX, "move", c, c, 1);
            run.refused(INDEX, "move", c, 0, 0).refused(INDEX, "move", 0, c, 10000);
        }
        // A sibling in debt can be given something, but can give nothing.
        Run debt = new Run("promise 16, debt");
        debt.due(0, "come", 3, 0).due(1, "come", 3, 0).due(1, "order", 1, 0, true).due(1, "days", 1);
        debt.due(100, "pay", 0, 100).refused(STATE, "move", 1, 0, 1).did(40, "move", 0, 1, 60);
        debt.asked(-190, "child", 1, 2).asked(-150, "family", 3, 2).refused(STATE, "move", 1, 0, 1);
    }

    private static void promise17Share() {
        Run run = new Run("promise 17");
        run.due(0, "come", 0, 0).due(1, "come", 0, 0).due(2, "come", 3, 0).due(100, "pay", 0, 100);
        run.due(50, "pay", 1, 50).due(7, "pay", 2, 7);
        run.did(150, "share", 0, true).asked(1, "family", 0, 1).asked(0, "family", 3, 1);
        run.did(150, "share", 0, true).asked(1, "family", 0, 1).did(150, "share", 0, false);
        run.asked(0, "family", 0, 1).did(150, "share", 0, false);
        run.did(0, "share", 4, true).asked(1, "family", 4, 1).did(7, "share", 3, true).asked(1, "family", 3, 1);
        run.due(1, "order", 2, 0, true).due(1, "days", 1).did(-243, "share", 3, true);
        for (int f : new int[] {-1, 5, LOWEST, HIGHEST}) {
            run.refused(INDEX, "share", f, true).refused(INDEX, "share", f, false);
        }
    }

    private static void promise18Entitle() {
        Run run = new Run("promise 18");
        run.due(0, "come", 0, 0).due(1, "come", 0, 0).due(0, "share", 0, true).due(500, "set", 1, 0);
        run.due(600, "pay", 1, 600).due(1, "order", 0, 0, true).due(1, "order", 0, 1, true);
        run.due(1, "order", 0, 2, true).due(1, "days", 1).due(250, "set", 0, 300).due(1, "days", 1);
        run.due(0, "days", 1).asked(50, "child", 1, 2);
        // What it cost then goes back to the sibling who paid; a refused meal stays refused.
        run.did(550, "entitle", 0, 0, 39).asked(600, "child", 1, 2).asked(0, "child", 0, 2);
        run.asked(3, "meal", 0, 0, 0).asked(3, "meal", 0, 1, 0).asked(4, "meal", 0, 2, 0).asked(0, "about", 9);
        run.asked(600, "about", 8).asked(2, "about", 5).asked(1, "about", 6).due(600, "share", 0, false);
        // What is not free any more costs the price of now, on the own balance, beyond the limit too.
        run.did(-300, "entitle", 0, 1, 1).asked(-300, "child", 0, 2).asked(300, "meal", 0, 0, 1);
        run.asked(0, "meal", 0, 0, 2).asked(600, "child", 1, 2).asked(0, "child", 0, 6);
        run.did(0, "entitle", 0, 0, 0).asked(3, "meal", 0, 0, 0).asked(2, "meal", 0, 1, 0).asked(300, "about", 9);
        run.did(-300, "entitle", 0, 5, NONE).asked(-600, "child", 0, 2);
        run.asked(NONE, "child", 0, 3).asked(NONE, "child", 0, 4);
        run.did(0, "entitle", 0, 39, 39).asked(39, "child", 0, 3).asked(39, "child", 0, 4);
        run.due(300, "set", 0, 1).did(600, "entitle", 0, 0, 1).asked(0, "child", 0, 2);
        run.did(-2, "entitle", 0, 2, 3).did(0, "entitle", 0, 2, 3).did(0, "entitle", 0, 20, NONE);
        run.did(1, "entitle", 0, 1, 39).asked(-1, "child", 0, 2).asked(1, "child", 0, 3).asked(39, "child", 0, 4);
    }

    private static void promise18OfManyChildren() {
        Run run = new Run("promise 18, many");
        run.due(0, "come", 0, 0).due(1, "come", 0, 0).due(2, "come", 0, 1).due(0, "share", 0, true);
        run.due(500, "set", 1, 0).due(1000, "pay", 0, 1000).due(1, "order", 0, 0, true).due(2, "order", 1, 0, true);
        run.due(3, "order", 2, 0, true).due(0, "menu", 0, 1).due(1, "order", 1, 1, true).due(2, "days", 1);
        run.asked(500, "child", 0, 2).asked(500, "child", 0, 7).asked(5, "meal", 2, 0, 0);
        run.did(250, "entitle", 1, 0, 0).asked(750, "child", 0, 2).asked(250, "meal", 0, 0, 1);
        run.asked(0, "meal", 0, 0, 2).asked(1, "meal", 1, 1, 0).asked(250, "child", 0, 7);
        run.did(0, "entitle", 2, 0, 39).asked(5, "meal", 2, 0, 0).asked(0, "meal", 2, 1, 0);
        run.did(250, "entitle", 0, 0, 0).asked(1000, "child", 0, 2).asked(0, "child", 0, 7);
        run.did(-250, "entitle", 1, 1, 1).asked(-250, "child", 1, 2).asked(1, "meal", 1, 1, 0);
        run.due(1, "days", 1).asked(3, "meal", 1, 1, 0).asked(1000, "child", 0, 2);
        // When the last day has gone by, too.
        run.due(0, "days", 38).did(250, "entitle", 1, 0, 1).did(-500, "entitle", 1, 39, 39);
    }

    private static void promise18WrongInputs() {
        Run run = new Run("promise 18, wrong");
        run.due(0, "come", 0, 0).due(1, "order", 0, 0, true).due(1, "days", 5);
        for (int c : new int[] {-1, 1, 12, LOWEST, HIGHEST}) {
            run.refused(INDEX, "entitle", c, 0, 0).refused(INDEX, "entitle", c, 0, 40);
            run.refused(INDEX, "entitle", c, 40, NONE);
        }
        for (int from : new int[] {-1, 40, LOWEST, HIGHEST}) {
            run.refused(INDEX, "entitle", 0, from, 39).refused(INDEX, "entitle", 0, from, NONE);
            run.refused(INDEX, "entitle", 0, from, from).refused(INDEX, "entitle", 0, from, -2);
        }
        for (int to : new int[] {-2, 40, LOWEST, HIGHEST}) {
            run.refused(ARGUMENT, "entitle", 0, 0, to).refused(ARGUMENT, "entitle", 0, 39, to);
        }
        run.refused(ARGUMENT, "entitle", 0, 5, 4).refused(ARGUMENT, "entitle", 0, 39, 38);
        run.refused(ARGUMENT, "entitle", 0, 1, 0);
        run.did(0, "entitle", 0, 39, 39).did(0, "entitle", 0, 5, 5).did(0, "entitle", 0, 39, NONE);
        run.did(250, "entitle", 0, 0, 0).did(-250, "entitle", 0, 0, NONE).did(250, "entitle", 0, 0, 39);
    }

    private static void promise19WriteOff() {
        Run run = new Run("promise 19");
        run.due(0, "come", 4, 0).due(1, "come", 4, 0).due(2, "come", 3, 0).due(3, "come", 4, 0);
        run.due(1, "order", 0, 0, true).due(2, "order", 1, 0, true).due(3, "order", 2, 0, true);
        run.due(1, "order", 1, 1, true).due(1000, "pay", 3, 1000);
        run.refused(STATE, "writeOff", 4).refused(STATE, "writeOff", 0).due(4, "days", 3);
        run.did(750, "writeOff", 4).asked(0, "child", 0, 2).asked(0, "child", 1, 2).asked(1000, "child", 3, 2);
        run.asked(-250, "child", 2, 2).asked(750, "family", 4, 4).asked(0, "family", 3, 4).asked(1000, "about", 8);
        run.asked(250, "meal", 0, 0, 1).refused(STATE, "writeOff", 4).refused(STATE, "writeOff", 0);
        run.did(250, "writeOff", 3).asked(1000, "about", 10).refused(STATE, "writeOff", 3);
        for (int f : new int[] {-1, 5, LOWEST, HIGHEST}) {
            run.refused(INDEX, "writeOff", f);
        }
        Run first = new Run("promise 19, family 0");
        first.due(0, "come", 0, 0).due(1, "order", 0, 0, true).due(1, "days", 1).did(250, "writeOff", 0);
        first.asked(250, "about", 10).asked(250, "family", 0, 4).refused(STATE, "writeOff", 0);
        // What was written off is paid back all the same, if it becomes free.
        run.did(250, "entitle", 0, 0, 39).asked(250, "child", 0, 2).asked(750, "family", 4, 4);
    }

    private static void promise21Set() {
        Run run = new Run("promise 21");
        run.did(250, "set", 0, 1).did(1, "set", 0, 999).did(999, "set", 0, 999).asked(500, "setting", 1);
        run.did(500, "set", 1, 0).did(0, "set", 1, 9999).did(9999, "set", 1, 1000).asked(999, "setting", 0);
        for (int v : new int[] {0, 1000, -1, LOWEST, HIGHEST}) {
            run.refused(ARGUMENT, "set", 0, v);
        }
        for (int v : new int[] {-1, 10000, LOWEST, HIGHEST}) {
            run.refused(ARGUMENT, "set", 1, v);
        }
        for (int what : new int[] {-1, 2, LOWEST, HIGHEST}) {
            run.refused(ARGUMENT, "set", what, 5).refused(ARGUMENT, "set", what, -5);
        }
    }
}
