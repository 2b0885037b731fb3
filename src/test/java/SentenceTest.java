import java.io.IOException;

/** Each sentence of the document, by the promise that it belongs to. */
public final class SentenceTest {
    public static void main(String[] args) throws IOException {
        MillSentences.all();
        RuleSentences.all();
        DaySentences.all();
        ImageSentences.all();
        Sentences.checkWithTheDocument();
        if (!Sentences.end()) {
            System.exit(1);
        }
    }
}
