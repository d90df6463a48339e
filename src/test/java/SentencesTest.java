/** Each sentence of the document by a test of its own; a sentence without a test is a fault too. */
public final class SentencesTest {
    public static void main(String[] args) throws Exception {
        RiverTerms.test();
        HeardTerms.test();
        FoundTerms.test();
        RefusalTerms.test();
        RiverEdges.test();
        ActEdges.test();
        HeardEdges.test();
        FoundEdges.test();
        Sentence.nothingIsLeftOut("Terms");
        for (int promise = 1; promise <= 31; promise++) {
            Sentence.nothingIsLeftOut("Promise " + promise);
        }
        Sentence.end();
    }
}
