/** Each sentence of the document that names a boundary case, with tests of its own. */
public final class EdgesTest {
    public static void main(String[] args) {
        TermsEdges.run();
        RoadEdges.run();
        TextEdges.run();
        BendsEdges.run();
        CostsEdges.run();
        WhereEdges.run();
        ImagesEdges.run();
        Edge.end();
        Check.end();
    }
}
