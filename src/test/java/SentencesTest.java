import java.io.IOException;
import java.nio.file.Files;
import java.nio.file.Path;

/** One trial, or more, for each sentence of the document that names a boundary case. */
public final class SentencesTest {
    public static void main(String[] args) throws IOException {
        Check check = new Check();
        Sentences sentences = new Sentences(check);
        TermsSentences.tell(sentences);
        RulesSentences.tell(sentences);
        LinksSentences.tell(sentences);
        JointsSentences.tell(sentences);
        TextsSentences.tell(sentences);
        LooksSentences.tell(sentences);
        WouldBeSentences.tell(sentences);
        Path path = Path.of(System.getProperty("document", "../shared/DOC.md"));
        if (Files.isReadable(path)) {
            sentences.compareWith(Document.read(path));
        } else {
            System.out.println("no document to compare the trials' words with at " + path);
        }
        check.end();
    }
}
