/** A test of its own for each sentence of the document, at the boundaries that it names. */
public final class SentenceTest {
    public static void main(String[] args) throws Exception {
        Sentences s = new Sentences();
        TownSentences.all(s);
        HourSentences.all(s);
        RingSentences.all(s);
        ReadingSentences.all(s);
        SheetSentences.all(s);
        RefusalSentences.all(s);
        s.end();
    }
}
