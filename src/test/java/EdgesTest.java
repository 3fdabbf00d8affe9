/** Every promise, sentence by sentence, at the edges that it names; no word of the document is left untried. */
public final class EdgesTest {
    public static void main(String[] args) throws Exception {
        Edges edges = new Edges();
        new HeadEdges(edges).all();
        new WiresEdges(edges).all();
        new TicksEdges(edges).all();
        new BestEdges(edges).all();
        new TextsEdges(edges).all();
        new SheetsEdges(edges).all();
        new RowsEdges(edges).all();
        new RefusedEdges(edges).all();
        edges.end();
    }
}
