import java.io.IOException;

/** Every sentence of the Terms and of promises 1 to 42, quoted, with a test of its own. */
final class EdgeTest {
    public static void main(String[] args) throws IOException {
        Edge.readDocument();
        EdgesOfText.all();
        EdgesOfSliding.all();
        EdgesOfRuns.all();
        EdgesOfCells.all();
        EdgesOfKeeping.all();
        EdgesOfSight.all();
        EdgesOfImages.all();
        Edge.end();
    }
}
