/** The sentences of the document that name an edge, each with a test of its own. */
public final class EdgeTest {
    public static void main(String[] args) {
        TermEdges.run();
        TextEdges.run();
        AnswerEdges.run();
        ForecastEdges.run();
        ChangeEdges.run();
        Sentence.end();
        Check.end();
    }
}
