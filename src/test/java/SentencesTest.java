import java.nio.file.Path;

/** ../shared/DOC.md from its first line to its last, sentence by sentence, each with tests that would fail if it did not hold. */
public final class SentencesTest {
    public static void main(String[] args) throws Exception {
        Document.open(Path.of("../shared/DOC.md"));
        FaceSentences.run();
        TextSentences.run();
        CountSentences.run();
        AwaySentences.run();
        SessionSentences.run();
        StatusSentences.run();
        PromiseSentences.run();
        PromiseSentencesToo.run();
        Document.names("## Not promised How the state is held inside the object is free, as are the speed of each call, the text of toString and the "
            + "behaviour of equals and hashCode. Use of one object from several threads at once is not promised to be safe. Nothing is promised "
            + "beyond the answers and state changes described above, and nothing about an object after its 512th call.");
        Document.end();
    }
}
