/** The boundary cases of promises 30 and 31, the save slots. */
final class SlotBoundaries extends Boundaries {
    private SlotBoundaries() {
    }

    static void testAll() {
        storesTheState();
        slotsToSaveIn();
        todayWhenSaved();
        saveInNoSlot();
        replacesTheState();
        slotKeepsIt();
        slotsToRestore();
        todayThen();
        restoreNoSlot();
        restoreAnEmptySlot();
    }

    private static void storesTheState() {
        Run run = promise(30, "Stores the present state in a save slot.").due(0, "save", 0).due(0, "come", 0, 0);
        // Neither later actions nor undo reach into it, and only the last state is in it.
        run.due(0, "save", 1).due(5, "pay", 0, 5).due(0, "save", 1).due(1, "undo").due(0, "undo").due(0, "come", 4, 3);
        run.due(0, "restore", 1).asked(5, "child", 0, 2).asked(0, "child", 0, 0).due(0, "restore", 0).asked(0, "about", 1);
        run.stateLike(new Run("a new object"));
        // The 14 remembered states are none of it, and stay remembered.
        Run many = promise(30, "Stores the present state in a save slot.").due(0, "come", 0, 0);
        for (int i = 1; i <= 20; i++) {
            many.due(i, "pay", 0, 1);
        }
        many.due(0, "save", 0).due(13, "undo").due(12, "undo").asked(18, "child", 0, 2).due(0, "restore", 0);
        many.asked(20, "child", 0, 2).refused(STATE, "undo");
    }

    private static void slotsToSaveIn() {
        Run run = promise(30, "slot: 0 or 1").due(0, "save", 0).due(0, "days", 1).due(1, "save", 1).due(0, "restore", 0);
        run.due(1, "restore", 1).refused(INDEX, "save", -1).refused(INDEX, "save", 2);
    }

    private static void todayWhenSaved() {
        Run run = promise(30, "Returns today.").due(0, "save", 0).due(0, "days", 1).due(1, "save", 0).due(0, "days", 38);
        run.due(39, "save", 1).due(0, "days", 1).due(40, "save", 0).due(40, "save", 1);
    }

    private static void saveInNoSlot() {
        Run run = promise(30, "Throws IndexOutOfBoundsException if there is no such save slot");
        run.refusedEach(INDEX, values(-1, 2, LOWEST, HIGHEST), "save", EACH).refused(STATE, "restore", 0);
        run.refused(STATE, "restore", 1).due(0, "save", 0).due(0, "save", 1).due(0, "days", 3);
        run.refusedEach(INDEX, values(-1, 2, LOWEST, HIGHEST), "save", EACH).due(0, "restore", 0);
    }

    private static void replacesTheState() {
        String sentence = "Replaces the state by the one in a save slot, and forgets all remembered states.";
        for (int actions : values(0, 1, 13, 14, 15, 30)) {
            Run run = children(promise(31, sentence), 1).due(0, "save", 0);
            for (int i = 0; i < actions; i++) {
                run.due(i + 1, "pay", 0, 1);
            }
            run.due(0, "restore", 0).asked(0, "child", 0, 2).refused(STATE, "undo").did(1, "pay", 0, 1).due(0, "undo");
            run.refused(STATE, "undo");
        }
        Run saved = richState(promise(31, sentence));
        Run run = richState(promise(31, sentence)).due(2, "save", 1);
        Run changed = changedState(richState(promise(31, sentence)));
        changedState(run).due(40, "save", 0).due(2, "restore", 1).stateLike(saved).due(40, "restore", 0).stateLike(changed);
        run.due(2, "restore", 1).stateLike(saved);
        // What a meal cost and who paid, when it has become free and was charged anew since.
        Run paid = children(promise(31, sentence), 0, 0).due(500, "set", 1, 0).due(0, "share", 0, true).due(250, "pay", 1, 250);
        paid.due(1, "order", 0, 0, true).due(1, "days", 1).due(1, "save", 0).due(250, "entitle", 0, 0, 0);
        paid.due(250, "set", 0, 300).due(-300, "entitle", 0, 1, 1).asked(0, "meal", 0, 0, 2).due(1, "restore", 0);
        paid.asked(1, "meal", 0, 0, 2).asked(250, "meal", 0, 0, 1).due(250, "entitle", 0, 0, 0).asked(250, "child", 1, 2);
        // The text is none of it.
        Run text = promise(31, sentence).text("Sc00").due(0, "save", 0).text("Sd").due(0, "restore", 0);
        text.asked(2, "errorPosition").due(2, "clearText");
    }

    /** Day 2, with something of each kind, for the first child, day and family and for the last ones. */
    private static Run richState(Run run) {
        for (int c = 0; c < 12; c++) {
            run.due(c, "come", c % 5, c % 4);
        }
        orders(orders(orders(run, 0, 0, 39), 11, 0, 39), 5, 1).due(0, "menu", 38, 3).due(0, "menu", 39, 2);
        run.due(0, "share", 0, true).due(0, "share", 4, true).due(300, "pay", 0, 300).due(9, "pay", 11, 9);
        run.due(0, "entitle", 0, 39, 39).due(0, "entitle", 11, 0, 0).due(250, "set", 0, 300).due(500, "set", 1, 450);
        return run.due(2, "days", 1).due(1, "days", 1).due(300, "writeOff", 0);
    }

    private static Run changedState(Run run) {
        run.due(1, "order", 0, 39, false).due(3, "menu", 38, 0).due(2, "menu", 39, 0).due(0, "share", 0, false);
        run.due(0, "share", 4, false).due(7, "pay", 0, 7).due(300, "entitle", 0, 0, 0).due(-300, "entitle", 11, 5, 5);
        return run.due(300, "set", 0, 1).due(450, "set", 1, 0).due(0, "days", 38).due(291, "writeOff", 1);
    }

    private static void slotKeepsIt() {
        Run run = children(promise(31, "The save slot keeps it."), 0).due(3, "pay", 0, 3).due(0, "save", 0);
        for (int i = 0; i < 3; i++) {
            run.due(0, "restore", 0).asked(3, "child", 0, 2).did(10, "pay", 0, 7).did(1, "order", 0, 39, true);
            run.did(0, "days", 5).due(2, "undo").due(1, "undo").due(0, "undo").refused(STATE, "undo").due(1, "pay", 0, -2);
        }
        run.due(0, "save", 1).due(0, "restore", 0).asked(3, "child", 0, 2).due(0, "restore", 1).asked(1, "child", 0, 2);
    }

    private static void slotsToRestore() {
        Run run = promise(31, "slot: 0 or 1").due(0, "save", 0).due(0, "days", 40).due(40, "save", 1).due(0, "restore", 0);
        run.asked(0, "about", 0).due(40, "restore", 1).asked(40, "about", 0).refused(INDEX, "restore", -1);
        run.refused(INDEX, "restore", 2);
    }

    private static void todayThen() {
        Run run = promise(31, "Returns today, then.").due(0, "save", 0).due(0, "days", 39).due(39, "save", 1).due(0, "days", 1);
        run.due(0, "restore", 0).due(39, "restore", 1).due(0, "days", 1).due(40, "save", 0).due(39, "restore", 1);
        run.due(40, "restore", 0).refused(STATE, "days", 1);
    }

    private static void restoreNoSlot() {
        Run run = promise(31, "Throws IndexOutOfBoundsException if there is no such save slot");
        run.refusedEach(INDEX, values(-1, 2, LOWEST, HIGHEST), "restore", EACH).due(0, "save", 0).due(0, "save", 1);
        run.refusedEach(INDEX, values(-1, 2, LOWEST, HIGHEST), "restore", EACH);
    }

    private static void restoreAnEmptySlot() {
        Run run = promise(31, "Throws IllegalStateException if nothing has been saved in it since the last load");
        run.refused(STATE, "restore", 0).refused(STATE, "restore", 1).due(0, "save", 1).refused(STATE, "restore", 0);
        run.due(0, "restore", 1).due(0, "save", 0).due(0, "restore", 0).text("Sd4").due(0, "load");
        run.refused(STATE, "restore", 0).refused(STATE, "restore", 1).due(4, "save", 0).due(4, "restore", 0);
        run.refused(STATE, "restore", 1).text("Sd").refused(STATE, "load").due(4, "restore", 0);
        // To restore one of them empties neither.
        Run both = run.another().due(0, "save", 0).due(0, "save", 1).due(0, "restore", 0).due(0, "restore", 1);
        both.due(0, "restore", 1).due(0, "restore", 0);
    }
}
