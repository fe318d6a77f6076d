import java.nio.file.Path;

/** The boundary cases, each test named by the promise or section and the sentence of the document that it is about. */
public final class BoundaryTest {
    private BoundaryTest() {
    }

    public static void main(String[] args) throws Exception {
        Check check = new Check("the boundaries");
        Sentences sentences = new Sentences(Path.of("../shared/DOC.md"));
        new TextBoundaries(check, sentences).all();
        new ScriptBoundaries(check, sentences).all();
        new WordBoundaries(check, sentences).all();
        new SearchBoundaries(check, sentences).all();
        new ProfileBoundaries(check, sentences).all();
        new ChangeBoundaries(check, sentences).all();
        for (String words : sentences.unnamed()) {
            check.that("a test names: " + words, false);
        }
        check.end();
    }
}
