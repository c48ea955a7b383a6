/**
 * For each sentence of the document that names a boundary case, a test of its own: it bears the sentence as
 * its title. At the end there must be no sentence of the document that was not quoted.
 */
public final class BoundariesTest {
    private BoundariesTest() {
    }

    public static void main(String[] args) {
        TermsBoundaries.testAll();
        TextBoundaries.testAll();
        FactsBoundaries.testAll();
        ActionsBoundaries.testAll();
        ForecastBoundaries.testAll();
        ScriptBoundaries.testAll();
        SlotBoundaries.testAll();
        Document.tellUnquoted();
        Run.end();
    }
}
