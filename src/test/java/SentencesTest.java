/** Each sentence of the document with tests of its own, and none without one. */
public final class SentencesTest {
    private SentencesTest() {
    }

    public static void main(String[] args) {
        SentencesOfTerms.run();
        SentencesOfSetup.run();
        SentencesOfPromises.run();
        SentencesOfFigures.run();
        Doc.finish();
        Check.finish("SentencesTest");
    }
}
