/** Promises 6 to 11: what there is. */
public final class FactsTest {
    private static final int NONE = Run.NONE;
    private static final int LOWEST = Integer.MIN_VALUE;
    private static final int HIGHEST = Integer.MAX_VALUE;
    private static final Class<?> INDEX = Run.INDEX;
    private static final Class<?> ARGUMENT = Run.ARGUMENT;

    private FactsTest() {
    }

    public static void main(String[] args) {
        promise6About();
        promise6AfterPayBackAndWriteOff();
        promise7Child();
        promise7ChargedToSiblings();
        promise8Family();
        promise8Debt();
        promise9Day();
        promise10Meal();
        promise11Setting();
        Run.end();
    }

    /**
     * Two days have gone by. Child 0 was charged to its sibling 1, child 1 to itself, child 2 (no meat) was
     * unsuited on day 0 and refused on day 1, child 3 was served free; child 0 has ordered for day 5 too.
     */
    private static Run school(String title) {
        Run run = new Run(title);
        run.due(0, "come", 0, 0).due(1, "come", 0, 0).due(2, "come", 1, 1).due(3, "come", 2, 2);
        run.due(0, "share", 0, true).due(1000, "pay", 1, 1000).due(500, "set", 1, 0).due(0, "entitle", 3, 0, 4);
        run.due(1, "order", 0, 0, true).due(2, "order", 1, 0, true).due(3, "order", 2, 0, true);
        run.due(4, "order", 3, 0, true).due(1, "order", 2, 1, true).due(1, "order", 0, 5, true);
        run.due(0, "menu", 0, 1).due(0, "menu", 7, 3).due(3, "days", 1).due(0, "days", 1);
        return run;
    }

    private static void all(Run run, int[] due, String name, Object... place) {
        for (int what = 0; what < due.length; what++) {
            Object[] arguments = java.util.Arrays.copyOf(place, place.length + 1);
            arguments[place.length] = what;
            run.asked(due[what], name, arguments);
        }
    }

    private static void promise6About() {
        Run run = school("promise 6");
        all(run, new int[] {2, 4, 1, 3, 2, 1, 1, 1, 1000, 500, 0, 500}, "about");
        run.refused(ARGUMENT, "about", -1).refused(ARGUMENT, "about", 12);
        run.refused(ARGUMENT, "about", LOWEST).refused(ARGUMENT, "about", HIGHEST);
        run.due(1, "order", 1, 2, true).due(1, "order", 1, 39, true).asked(3, "about", 2);
        run.due(0, "order", 1, 2, false).asked(2, "about", 2);
        run.due(2, "days", 38).asked(40, "about", 0).asked(0, "about", 2).asked(5, "about", 3).asked(0, "about", 11);
    }

    private static void promise6AfterPayBackAndWriteOff() {
        Run run = school("promise 6, later");
        run.due(250, "set", 0, 300).due(250, "entitle", 0, 0, 0);
        all(run, new int[] {2, 4, 1, 3, 1, 2, 1, 1, 1000, 250, 0, 750}, "about");
        run.due(-300, "entitle", 3, 1, 4);
        all(run, new int[] {2, 4, 1, 3, 2, 1, 1, 1, 1000, 550, 0, 450}, "about");
        run.due(300, "writeOff", 2);
        all(run, new int[] {2, 4, 1, 3, 2, 1, 1, 1, 1000, 550, 300, 750}, "about");
        run.due(50, "pay", 1, -700).due(100, "pay", 1, 50).due(70, "move", 1, 0, 30);
        all(run, new int[] {2, 4, 1, 3, 2, 1, 1, 1, 350, 550, 300, 100}, "about");
    }

    private static void promise7Child() {
        Run run = school("promise 7");
        all(run, new int[] {0, 0, 0, NONE, NONE, 1, 1, 0, 0}, "child", 0);
        all(run, new int[] {0, 0, 500, NONE, NONE, 1, 0, 500, 0}, "child", 1);
        all(run, new int[] {1, 1, 0, NONE, NONE, 0, 0, 0, 1}, "child", 2);
        all(run, new int[] {2, 2, 0, 0, 4, 1, 0, 0, 0}, "child", 3);
        for (int c : new int[] {-1, 4, 11, 12, LOWEST, HIGHEST}) {
            run.refused(INDEX, "child", c, 0).refused(INDEX, "child", c, 9).refused(INDEX, "child", c, -1);
        }
        for (int what : new int[] {-1, 9, LOWEST, HIGHEST}) {
            run.refused(ARGUMENT, "child", 0, what).refused(ARGUMENT, "child", 3, what);
        }
    }

    private static void promise7ChargedToSiblings() {
        Run run = school("promise 7, later");
        run.due(250, "set", 0, 300).due(250, "entitle", 0, 0, 0);
        all(run, new int[] {0, 0, 0, 0, 0, 1, 0, 0, 0}, "child", 0);
        all(run, new int[] {0, 0, 750, NONE, NONE, 1, 0, 250, 0}, "child", 1);
        run.due(-300, "entitle", 0, 5, NONE);
        all(run, new int[] {0, 0, -300, NONE, NONE, 1, 0, 300, 0}, "child", 0);
        all(run, new int[] {0, 0, 750, NONE, NONE, 1, 0, 250, 0}, "child", 1);
        run.due(0, "entitle", 0, 5, 39).asked(5, "child", 0, 3).asked(39, "child", 0, 4);
        run.due(0, "order", 0, 5, false).due(1, "order", 2, 2, true).due(0, "days", 1).asked(2, "child", 2, 8);
    }

    private static void promise8Family() {
        Run run = school("promise 8");
        all(run, new int[] {2, 1, 500, 0, 0}, "family", 0);
        all(run, new int[] {1, 0, 0, 0, 0}, "family", 1);
        all(run, new int[] {0, 0, 0, 0, 0}, "family", 3);
        for (int f : new int[] {-1, 5, LOWEST, HIGHEST}) {
            run.refused(INDEX, "family", f, 0).refused(INDEX, "family", f, 5).refused(INDEX, "family", f, -1);
        }
        for (int what : new int[] {-1, 5, LOWEST, HIGHEST}) {
            run.refused(ARGUMENT, "family", 0, what).refused(ARGUMENT, "family", 4, what);
        }
    }

    private static void promise8Debt() {
        Run run = new Run("promise 8, debt");
        run.due(0, "come", 4, 0).due(1, "come", 4, 0).due(2, "come", 3, 0).due(3, "come", 4, 0);
        run.due(1, "order", 0, 0, true).due(2, "order", 1, 0, true).due(3, "order", 2, 0, true);
        run.due(1, "order", 1, 1, true).due(70, "pay", 3, 70).due(4, "days", 3);
        all(run, new int[] {3, 0, -680, 750, 0}, "family", 4);
        all(run, new int[] {1, 0, -250, 250, 0}, "family", 3);
        run.due(750, "writeOff", 4);
        all(run, new int[] {3, 0, 70, 0, 750}, "family", 4);
        all(run, new int[] {1, 0, -250, 250, 0}, "family", 3);
        run.due(1, "order", 3, 3, true).due(1, "days", 1).due(180, "writeOff", 4);
        all(run, new int[] {3, 0, 0, 0, 930}, "family", 4);
        run.asked(930, "about", 10);
    }

    private static void promise9Day() {
        Run run = school("promise 9");
        all(run, new int[] {1, 4, 3, 500}, "day", 0);
        all(run, new int[] {0, 1, 0, 0}, "day", 1);
        all(run, new int[] {0, 0, 0, 0}, "day", 2);
        all(run, new int[] {0, 1, 0, 0}, "day", 5);
        all(run, new int[] {3, 0, 0, 0}, "day", 7);
        all(run, new int[] {0, 0, 0, 0}, "day", 39);
        run.due(250, "set", 0, 300).due(250, "entitle", 0, 0, 0);
        all(run, new int[] {1, 4, 3, 250}, "day", 0);
        run.due(-300, "entitle", 3, 1, 4);
        all(run, new int[] {1, 4, 3, 550}, "day", 0);
        for (int d : new int[] {-1, 40, LOWEST, HIGHEST}) {
            run.refused(INDEX, "day", d, 0).refused(INDEX, "day", d, 4).refused(INDEX, "day", d, -1);
        }
        for (int what : new int[] {-1, 4, LOWEST, HIGHEST}) {
            run.refused(ARGUMENT, "day", 0, what).refused(ARGUMENT, "day", 39, what);
        }
    }

    private static void promise10Meal() {
        Run run = school("promise 10");
        all(run, new int[] {2, 250, 1}, "meal", 0, 0);
        all(run, new int[] {2, 250, 1}, "meal", 1, 0);
        all(run, new int[] {5, NONE, NONE}, "meal", 2, 0);
        all(run, new int[] {3, 0, NONE}, "meal", 3, 0);
        all(run, new int[] {4, NONE, NONE}, "meal", 2, 1);
        all(run, new int[] {0, NONE, NONE}, "meal", 0, 1);
        all(run, new int[] {1, NONE, NONE}, "meal", 0, 5);
        all(run, new int[] {0, NONE, NONE}, "meal", 3, 39);
        run.due(250, "set", 0, 300).due(250, "entitle", 0, 0, 0);
        all(run, new int[] {3, 0, NONE}, "meal", 0, 0);
        all(run, new int[] {2, 250, 1}, "meal", 1, 0);
        run.due(-300, "entitle", 0, 1, 1);
        all(run, new int[] {2, 300, 0}, "meal", 0, 0);
        for (int wrong : new int[] {-1, 40, LOWEST, HIGHEST}) {
            run.refused(INDEX, "meal", 0, wrong, 0).refused(INDEX, "meal", wrong, 0, 0);
            run.refused(INDEX, "meal", 0, wrong, 3).refused(INDEX, "meal", wrong, 0, -1);
            run.refused(INDEX, "meal", wrong, wrong, 0);
        }
        run.refused(INDEX, "meal", 4, 0, 0).refused(INDEX, "meal", 4, 0, 3);
        for (int what : new int[] {-1, 3, LOWEST, HIGHEST}) {
            run.refused(ARGUMENT, "meal", 0, 0, what).refused(ARGUMENT, "meal", 3, 39, what);
        }
    }

    private static void promise11Setting() {
        Run run = new Run("promise 11");
        run.asked(250, "setting", 0).asked(500, "setting", 1);
        run.due(250, "set", 0, 999).due(500, "set", 1, 9999).asked(999, "setting", 0).asked(9999, "setting", 1);
        run.due(999, "set", 0, 1).due(9999, "set", 1, 0).asked(1, "setting", 0).asked(0, "setting", 1);
        for (int what : new int[] {-1, 2, LOWEST, HIGHEST}) {
            run.refused(ARGUMENT, "setting", what);
        }
    }
}
