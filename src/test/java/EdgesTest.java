/** Every sentence of the document has a test that quotes it: those of TextEdges, PlayEdges, AskEdges and LongEdges. */
public final class EdgesTest {
    public static void main(String[] args) throws Exception {
        Doc.read();
        TextEdges.all();
        PlayEdges.all();
        AskEdges.all();
        LongEdges.all();
        Doc.allQuoted();
        Check.done();
    }
}
