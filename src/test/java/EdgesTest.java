import java.io.IOException;

/** Each sentence of the document that names an edge, by a test of its own. */
public final class EdgesTest {
    private EdgesTest() {
    }

    public static void main(String[] args) throws IOException {
        EdgesOfTerms.test();
        EdgesOfCycle.test();
        EdgesOfChurn.test();
        EdgesOfPats.test();
        EdgesOfStatistics.test();
        EdgesOfTexts.test();
        EdgesOfDenials.test();
        EdgesOfUndo.test();
        Edges.compareWithDocument();
        Due.end("EdgesTest");
    }
}
