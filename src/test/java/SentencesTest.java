/** Every sentence of the document's sections and promises, with a test of its own for each. */
public final class SentencesTest {
    public static void main(String[] args) {
        PartsEdges.all();
        TurnEdges.all();
        WayEdges.all();
        TextEdges.all();
        BufferEdges.all();
        WorkEdges.all();
        JamEdges.all();
        ShownEdges.all();
        CheckEdges.all();
        ChangeEdges.all();
        Edge.tellWhatIsForgotten();
        Check.end();
    }
}
