import java.io.IOException;
import java.nio.file.Path;

/** Each sentence of the document that names a boundary case, with a test of its own. */
public final class SentencesTest {
    public static void main(String[] args) throws IOException {
        Doc doc = new Doc(Path.of(args.length > 1 ? args[1] : "../shared/DOC.md"));
        new TermSentences(doc).run();
        new TextSentences(doc).run();
        new PromiseSentences(doc).run();
        new ChangeSentences(doc).run();
        doc.end();
        Check.end();
    }
}
