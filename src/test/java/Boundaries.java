/** What the tests of the document's boundary cases have in common. */
abstract class Boundaries {
    static final int NONE = Run.NONE;
    static final int LOWEST = Integer.MIN_VALUE;
    static final int HIGHEST = Integer.MAX_VALUE;
    static final Class<?> INDEX = Run.INDEX;
    static final Class<?> ARGUMENT = Run.ARGUMENT;
    static final Class<?> STATE = Run.STATE;
    /** Stands for each of some values in the arguments of a call. */
    static final Object EACH = Run.EACH;

    /** A run that tests a sentence of the section "Terms". */
    static Run terms(String sentence) {
        return of("Terms", sentence);
    }

    /** A run that tests a sentence of a promise. */
    static Run promise(int number, String sentence) {
        return of("Promise " + number, sentence);
    }

    static Run of(String section, String sentence) {
        Document.quote(section, sentence);
        return new Run(section + ", " + sentence);
    }

    /** Sentences of a promise that name no boundary, or none that is not named elsewhere. */
    static void noBoundary(int number, String... sentences) {
        for (String sentence : sentences) {
            Document.quote("Promise " + number, sentence);
        }
    }

    static int[] values(int... values) {
        return values;
    }

    /** The first children come, one of each of these families, and eat everything. */
    static Run children(Run run, int... families) {
        for (int c = 0; c < families.length; c++) {
            run.due(c, "come", families[c], 0);
        }
        return run;
    }

    static Run orders(Run run, int c, int... days) {
        for (int d : days) {
            run.call("order", c, d, true);
        }
        return run;
    }

    static Run ordersFromTo(Run run, int c, int first, int last) {
        for (int d = first; d <= last; d++) {
            run.call("order", c, d, true);
        }
        return run;
    }

    /** That no method finds this child. */
    static void noSuchChild(Run run, int c) {
        run.refused(INDEX, "child", c, 0).refused(INDEX, "meal", c, 0, 0).refused(INDEX, "order", c, 0, true);
        run.refused(INDEX, "pay", c, 1).refused(INDEX, "move", c, 0, 1).refused(INDEX, "move", 0, c, 1);
        run.refused(INDEX, "entitle", c, 0, 39).refused(INDEX, "refusedOn", c).refused(INDEX, "ifEntitled", c, 0, 39);
    }

    /** That no method finds this family. */
    static void noSuchFamily(Run run, int f) {
        run.refused(INDEX, "family", f, 0).refused(INDEX, "come", f, 0).refused(INDEX, "share", f, true);
        run.refused(INDEX, "writeOff", f).refused(INDEX, "needs", f);
    }

    /** That no method finds this day; there must be a child 0. */
    static void noSuchDay(Run run, int d) {
        run.refused(INDEX, "day", d, 0).refused(INDEX, "meal", 0, d, 0).refused(INDEX, "menu", d, 0);
        run.refused(INDEX, "order", 0, d, true).refused(INDEX, "entitle", 0, d, 39);
        run.refused(INDEX, "entitle", 0, d, NONE).refused(INDEX, "ifEntitled", 0, d, 39);
    }
}
