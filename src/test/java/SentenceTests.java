/** A test for each sentence of the document, and for each boundary that a sentence names; none may be left without one. */
public final class SentenceTests {
    public static void main(String[] args) throws Exception {
        Sentences.open();
        TermsSentences.all();
        TextSentences.all();
        SearchSentences.all();
        TellSentences.all();
        AskSentences.all();
        if (Sentences.close() != 0) System.exit(1);
    }
}
