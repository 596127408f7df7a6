import java.nio.file.Path;

/** Every sentence of the document, with the boundary cases that it names. */
public final class SentenceTests {
    public static void main(String[] args) throws Exception {
        Sentences doc = new Sentences(Path.of("../shared/DOC.md"));
        new SpaceSentences(doc).check();
        new SheetSentences(doc).check();
        new RefusedSentences(doc).check();
        new ChangeSentences(doc).check();
        if (!doc.allHold()) System.exit(1);
    }
}
