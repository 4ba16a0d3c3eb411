/**
 * Each sentence of the document that names a boundary case, with a test of its own; a sentence that
 * may name one and that no test quotes is told as wrong.
 */
public final class EdgesTest {
    public static void main(String[] args) {
        Edges e = new Edges();
        TermsEdges.run(e);
        TextEdges.run(e);
        LooksEdges.run(e);
        ActionsEdges.run(e);
        StatesEdges.run(e);
        LookAheadEdges.run(e);
        ScriptsEdges.run(e);
        SlotsEdges.run(e);
        e.finish("EdgesTest");
    }
}
