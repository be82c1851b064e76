/** The document sentence by sentence: each that names a boundary case has a test of its own. */
public final class SentencesTest {
    public static void main(String[] args) {
        SentencesOfTerms.all();
        SentencesOfTexts.all();
        SentencesOfBargains.all();
        SentencesOfThought.all();
        SentencesOfCalls.all();
        if (args.length > 0) {
            Sentence.printUnheard();
        }
        Sentence.dueAllPromises();
        Sentence.dueNoBoundUnheard();
        Check.finish();
    }
}
