/** The document read again, sentence by sentence: all words of its Terms and of its promises are quoted by a test. */
public final class SentenceTest {
    public static void main(String[] args) {
        TapeSentences.run();
        ClassSentences.run();
        HeapSentences.run();
        WriteSentences.run();
        PictureSentences.run();
        QuestionSentences.run();
        RuleSentences.run();
        BytesSentences.run();
        Document.allQuoted();
        Check.done("SentenceTest");
    }
}
