/** For each sentence of the document that names a boundary a test of its own; see Edge. */
public final class EdgesTest {
    public static void main(String[] args) {
        EdgesOfText.all();
        EdgesOfTests.all();
        EdgesOfCutting.all();
        EdgesOfSaving.all();
        EdgesOfReading.all();
        EdgesOfActs.all();
        Edge.ends();
        Due.ends("EdgesTest");
    }
}
