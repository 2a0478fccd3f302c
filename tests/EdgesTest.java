/** All promises and the Terms that they rest on, word by word: each that names a boundary is tested at it. */
public final class EdgesTest {
    public static void main(String[] args) throws Exception {
        Doc doc = new Doc();
        new HillEdges(doc).all();
        new TextEdges(doc).all();
        new LawEdges(doc).all();
        new FillEdges(doc).all();
        new GoEdges(doc).all();
        new HeapEdges(doc).all();
        new ThoughtEdges(doc).all();
        new TellEdges(doc).all();
        new RideEdges(doc).all();
        doc.end("EdgesTest");
    }
}
