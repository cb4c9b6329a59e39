import java.io.IOException;
import java.nio.file.Path;

/** The document, sentence by sentence: what each asks at its boundaries. */
public final class DocumentTest {
    private DocumentTest() {
    }

    public static void main(String[] args) throws IOException {
        Check check = new Check();
        Document document = new Document(Path.of("../shared/DOC.md"));
        Part[] parts = {new AnswersPart(check, document), new FormsPart(check, document), new PagesPart(check, document),
            new FaultsPart(check, document), new ColumnPromises(check, document), new FilePromises(check, document)};
        for (Part part : parts) {
            try {
                part.holds();
            } catch (RuntimeException e) {
                e.printStackTrace(System.out);
                check.due("no call throws: " + part.getClass(), 1, 0);
            }
        }
        System.out.print(document.told());
        check.end("DocumentTest");
    }
}
