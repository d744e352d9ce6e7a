/** Each sentence of the document that names a boundary case has a test of its own; they stand in src/test/help. */
public final class EdgeTests {
    public static void main(String[] args) throws Exception {
        Edges.run(PrisonEdges.class, LawEdges.class, OrderEdges.class, GoingEdges.class, ReckonEdges.class, RecordEdges.class);
    }
}
