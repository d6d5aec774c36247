import java.io.IOException;
import java.nio.file.Files;
import java.nio.file.Path;

/**
 * Every sentence of the document that names a boundary case, with a run of its own; and that the
 * runs' sentences really stand in the document, and that none of its sentences was left out.
 */
public final class SentenceTest {
    private static final Checks CHECKS = new Checks();

    private SentenceTest() {
    }

    public static void main(String[] args) throws IOException {
        Book book = new Book(Files.readAllLines(Path.of("../shared/DOC.md")));
        UseSentences.tell(book);
        FaceSentences.tell(book);
        CardTerms.tell(book);
        WriteTerms.tell(book);
        DoorTerms.tell(book);
        RefusalTerms.tell(book);
        GateSentences.tell(book);
        DoorSentences.tell(book);
        CardSentences.tell(book);
        VisitSentences.tell(book);
        book.checkSentences(CHECKS);
        book.checkNothingLeftOut(CHECKS, "What it is");
        book.checkNothingLeftOut(CHECKS, "The public face");
        book.checkNothingLeftOut(CHECKS, "Terms");
        CHECKS.due("promises in the document", 20, () -> book.promises().size());
        for (String promise : book.promises()) {
            book.checkNothingLeftOut(CHECKS, promise);
        }
        book.checkRuns(CHECKS);
        CHECKS.end();
    }
}
