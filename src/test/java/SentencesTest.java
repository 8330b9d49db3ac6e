import java.io.IOException;

/** Asks for every sentence of the terms and of the promises, and that no sentence of the document is left out. */
public final class SentencesTest {
    private SentencesTest() {
    }

    public static void main(String[] args) throws IOException {
        TermsSentences.ask();
        ExceptionSentences.ask();
        ChamberSentences.ask();
        FuelAndWallSentences.ask();
        ProgramSentences.ask();
        Sentences.compareWithDocument();
        Check.finish();
    }
}
