/** Promises 30 and 31: the save slots. */
public final class SlotsTest {
    private static final int LOWEST = Integer.MIN_VALUE;
    private static final int HIGHEST = Integer.MAX_VALUE;
    private static final Class<?> INDEX = Run.INDEX;
    private static final Class<?> STATE = Run.STATE;

    private SlotsTest() {
    }

    public static void main(String[] args) {
        promise30Save();
        promise30IsNoAction();
        promise31Restore();
        promise31Everything();
        promise31SinceTheLastLoad();
        Run.end();
    }

    private static void promise30Save() {
        Run run = new Run("promise 30");
        run.due(0, "save", 0).due(0, "come", 0, 0).due(0, "days", 7).due(7, "save", 1).due(0, "days", 33);
        run.due(40, "save", 0).due(40, "restore", 0).due(7, "restore", 1);
        for (int slot : new int[] {-1, 2, LOWEST, HIGHEST}) {
            run.refused(INDEX, "save", slot);
        }
        // A slot is written over, the other one is left alone, and later calls do not reach into it.
        Run over = new Run("promise 30, over");
        over.due(0, "come", 0, 0).due(0, "save", 0).due(0, "save", 1).due(5, "pay", 0, 5).due(0, "save", 1);
        over.due(1, "order", 0, 3, true).due(11, "pay", 0, 6).due(0, "restore", 1).asked(5, "child", 0, 2);
        over.asked(0, "about", 2).due(0, "restore", 0).asked(0, "child", 0, 2).due(0, "restore", 1);
        over.asked(5, "child", 0, 2);
    }

    private static void promise30IsNoAction() {
        Run run = new Run("promise 30, no action");
        run.due(0, "save", 0).refused(STATE, "undo").due(0, "come", 0, 0).due(3, "pay", 0, 3).due(0, "save", 0);
        run.due(1, "undo").asked(0, "child", 0, 2).due(0, "undo").refused(STATE, "undo").due(0, "restore", 0);
        run.asked(3, "child", 0, 2).refused(STATE, "undo");
    }

    private static void promise31Restore() {
        Run run = new Run("promise 31");
        run.refused(STATE, "restore", 0).refused(STATE, "restore", 1).due(0, "come", 0, 0).due(0, "days", 4);
        run.due(4, "save", 1).refused(STATE, "restore", 0);
        for (int slot : new int[] {-1, 2, LOWEST, HIGHEST}) {
            run.refused(INDEX, "restore", slot);
        }
        run.due(0, "days", 6).text("Sc00").due(4, "restore", 1).asked(4, "about", 0).refused(STATE, "undo");
        run.asked(-1, "errorPosition").due(4, "clearText");
        // The slot keeps it, whatever becomes of the state that was taken from it.
        run.did(1, "order", 0, 4, true).did(9, "pay", 0, 9).did(1, "days", 1).due(2, "undo").due(4, "restore", 1);
        run.refused(STATE, "undo").asked(0, "about", 8).asked(0, "about", 2).did(0, "days", 36);
        run.due(4, "restore", 1).asked(4, "about", 0).did(1, "come", 1, 1).due(0, "undo").refused(STATE, "undo");
        // A full history is forgotten too.
        for (int i = 1; i <= 20; i++) {
            run.due(i, "pay", 0, 1);
        }
        run.due(4, "restore", 1).refused(STATE, "undo").did(1, "pay", 0, 1).due(0, "undo").refused(STATE, "undo");
    }

    private static void promise31Everything() {
        Run run = new Run("promise 31, everything");
        run.due(0, "come", 0, 0).due(1, "come", 0, 1).due(2, "come", 3, 2).due(0, "share", 0, true);
        run.due(600, "pay", 1, 600).due(250, "set", 0, 260).due(500, "set", 1, 10).due(1, "order", 0, 0, true);
        run.due(1, "order", 0, 1, true).due(1, "order", 1, 2, true).due(0, "menu", 2, 1).due(0, "menu", 9, 3);
        run.due(0, "entitle", 2, 0, 5).due(1, "order", 2, 3, true).due(3, "days", 4).due(1, "order", 1, 8, true);
        Run saved = new Run("promise 31, saved");
        saved.due(0, "come", 0, 0).due(1, "come", 0, 1).due(2, "come", 3, 2).due(0, "share", 0, true);
        saved.due(600, "pay", 1, 600).due(250, "set", 0, 260).due(500, "set", 1, 10).due(1, "order", 0, 0, true);
        saved.due(1, "order", 0, 1, true).due(1, "order", 1, 2, true).due(0, "menu", 2, 1).due(0, "menu", 9, 3);
        saved.due(0, "entitle", 2, 0, 5).due(1, "order", 2, 3, true).due(3, "days", 4).due(1, "order", 1, 8, true);
        run.due(4, "save", 0).due(520, "entitle", 0, 0, 39).due(-260, "entitle", 2, 9, 9).due(260, "writeOff", 3);
        run.due(600, "share", 0, false).due(260, "set", 0, 1).due(10, "set", 1, 0).due(3, "come", 4, 3);
        run.due(3, "menu", 9, 0).due(0, "order", 1, 8, false).due(500, "move", 1, 0, 100).due(0, "days", 9);
        run.due(13, "save", 1).due(4, "restore", 0).stateLike(saved).due(13, "restore", 1).asked(4, "about", 1);
        run.due(4, "restore", 0).stateLike(saved).asked(80, "child", 1, 2);
    }

    private static void promise31SinceTheLastLoad() {
        Run run = new Run("promise 31, load");
        run.due(0, "save", 0).due(0, "save", 1).text("Sd3").due(0, "load").refused(STATE, "restore", 0);
        run.refused(STATE, "restore", 1).due(3, "save", 1).refused(STATE, "restore", 0).due(3, "restore", 1);
        run.refused(INDEX, "restore", 2).due(0, "load").refused(STATE, "restore", 1);
        // A load that throws empties no slot.
        Run thrown = new Run("promise 31, load that throws");
        thrown.due(0, "days", 5).due(5, "save", 0).text("Sd").refused(STATE, "load").due(5, "restore", 0);
    }
}
