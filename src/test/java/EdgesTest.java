/** Every sentence of the document, its edges and what is refused; see Edges. */
public final class EdgesTest {
    public static void main(String[] args) throws Exception {
        Edges edges = new Edges();
        new ShelfEdges(edges).all();
        new TownEdges(edges).all();
        new TapeEdges(edges).all();
        new GroupEdges(edges).all();
        new DayEdges(edges).all();
        new ThoughtEdges(edges).all();
        new TruthEdges(edges).all();
        edges.end();
    }
}
