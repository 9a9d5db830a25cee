/** Every sentence of the document with a test of its own that quotes it, at the edges that it names. */
final class SentencesTest {
    public static void main(String[] args) throws Exception {
        DescriptionSentences.run();
        PolicySentences.run();
        DecodingSentences.run();
        ExceptionsSentences.run();
        VersionSentences.run();
        DeltaSentences.run();
        PlanSentences.run();
        CodeSentences.run();
        WorkSentences.run();
        StateSentences.run();
        Sentences.compareWithDocument();
        Due.end();
    }
}
