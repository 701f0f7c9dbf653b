import java.nio.file.Files;
import java.nio.file.Path;

/**
 * A test of its own for each sentence of the document, at the boundaries that it names. What is
 * printed tells the sentence; says("..") finds its test. No sentence may be without one.
 */
final class BoundsTest {
    public static void main(String[] args) throws Exception {
        Check check = new Check("BoundsTest");
        Sentences doc = new Sentences(check, Files.readString(Path.of("../shared/DOC.md")));
        new TextBounds(doc).all();
        new MinuteBounds(doc).all();
        new ForetoldBounds(doc).all();
        new TellingBounds(doc).all();
        new AskingBounds(doc).all();
        doc.allAreSaid();
        check.end();
    }
}
