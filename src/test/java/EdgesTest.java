/**
 * The edges that the document names, sentence by sentence: each test names its promise and quotes
 * its sentence, and at the end no sentence of the promises and terms is without one.
 */
public final class EdgesTest {
    private EdgesTest() {
    }

    public static void main(String[] args) {
        LineEdges.run();
        FixtureEdges.run();
        PatchEdges.run();
        CurveEdges.run();
        CueEdges.run();
        TickEdges.run();
        BookEdges.run();
        Doc.end();
        Tally.end();
    }
}
