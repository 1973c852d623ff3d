/** The boundary cases of the terms and of promises 1 to 12, sentence by sentence. */
public final class EdgesTest {
    public static void main(String[] args) {
        KeptEdges.all();
        InstructionEdges.all();
        SealEdges.all();
        SlotEdges.all();
        StepEdges.all();
        CommitEdges.all();
        PowerEdges.all();
        RadioEdges.all();
        PromiseEdges.all();
        Edge.everySentenceHasACase();
        Due.end("EdgesTest");
    }
}
