/** A test for each sentence of the document's terms and promises, and a look whether one has no test. */
public final class SentenceTests {
    // What a call's part of the interface is called is no promise; that looks change nothing is, and has its tests.
    private static final String WORDS_WITHOUT_TEST = "Ahead of the calls [^\n]* the interface says: ---- [^\n]*";

    public static void main(String[] args) {
        TuneSentences.run();
        SchoolSentences.run();
        TextSentences.run();
        ChangeSentences.run();
        TextCallSentences.run();
        LookSentences.run();
        WouldBeSentences.run();
        Sentences.allIsNamed("Terms", "Promise 31: digest", WORDS_WITHOUT_TEST);
        if (!Sentences.end()) {
            System.exit(1);
        }
    }
}
