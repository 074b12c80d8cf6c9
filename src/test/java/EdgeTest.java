/** Every sentence of the document, promise by promise, each held by a test of its own; most of all its edges. */
final class EdgeTest {
    public static void main(String[] args) {
        Edges edges = new Edges();
        new AnswerEdges(edges).all();
        new TextEdges(edges).all();
        new GrammarEdges(edges).all();
        new AskEdges(edges).all();
        new HandEdges(edges).all();
        new DeedEdges(edges).all();
        new FoldingEdges(edges).all();
        new ImageEdges(edges).all();
        new SheetEdges(edges).all();
        edges.everySentenceIsQuoted();
        edges.close();
    }
}
