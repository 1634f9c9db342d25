import java.io.IOException;

/** A test for each sentence of the document that names a boundary case, bound to the sentence's words. */
public final class SentenceTest {
    public static void main(String[] args) throws IOException {
        Sentences.readDocument();
        RailwaySentences.tell();
        MinuteSentences.tell();
        TextSentences.tell();
        StateSentences.tell();
        InputSentences.tell();
        QuestionSentences.tell();
        FutureSentences.tell();
        ChangeSentences.tell();
        Sentences.checkThatAllAreQuoted();
        Check.finish("SentenceTest");
    }
}
