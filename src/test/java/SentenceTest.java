import java.nio.file.Path;

/** Each sentence of the document, with its boundary cases; each test has the promise's number and the words. */
public final class SentenceTest {
    public static void main(String[] args) {
        new TermsSentences().all();
        new CallSentences().all();
        new LookSentences().all();
        Sentences.end(Path.of(System.getProperty("document", "../shared/DOC.md")));
    }
}
