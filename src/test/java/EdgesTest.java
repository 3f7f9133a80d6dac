/** The sentences of the document, each with a test of its own. */
public final class EdgesTest {
    public static void main(String[] args) {
        RowEdges.all();
        StepEdges.all();
        StepCallEdges.all();
        KeptEdges.all();
        ExchangeEdges.all();
        ChosenEdges.all();
        LawEdges.all();
        CountingEdges.all();
        QueueEdges.all();
        SumEdges.all();
        ThrowEdges.all();
        Edges.demandAllSentences();
        Check.end("EdgesTest");
    }
}
