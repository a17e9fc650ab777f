import java.io.IOException;

/** Every sentence of the document from its first line on, quoted, with a test of its own. */
final class EdgeTest {
    public static void main(String[] args) throws IOException {
        Edge.readDocument();
        EdgesOfFace.all();
        EdgesOfText.all();
        EdgesOfSliding.all();
        EdgesOfRuns.all();
        EdgesOfCells.all();
        EdgesOfKeeping.all();
        EdgesOfSight.all();
        EdgesOfImages.all();
        Edge.end();
    }
}
