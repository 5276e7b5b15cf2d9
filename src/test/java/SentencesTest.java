import java.io.IOException;
import java.nio.file.Files;
import java.nio.file.Path;

/** Each sentence of the document that names a boundary case, with a test of its own. */
public final class SentencesTest {
    private static final Path DOCUMENT = Path.of("..", "shared", "DOC.md");

    public static void main(String[] args) throws IOException {
        AmountSentences.tell();
        ReplySentences.tell();
        ChargeSentences.tell();
        AllowedSentences.tell();
        CauseSentences.tell();
        ContactorSentences.tell();
        JournalSentences.tell();
        RefusalSentences.tell();
        CallSentences.tell();
        AnswerSentences.tell();
        if (Files.isReadable(DOCUMENT)) {
            Sentence.cover(DOCUMENT);
        } else {
            System.out.println(DOCUMENT + " is not there: whether each of its sentences has a test was not looked at");
        }
        Expect.end();
    }
}
