import java.nio.file.Path;

/** Every sentence of the document that promises something, each with a test of its own. */
public final class SentencesTest {
    private SentencesTest() {
    }

    public static void main(String[] args) {
        Book.open(Path.of(args.length > 0 ? args[0] : "../shared/DOC.md"));
        CellSentences.all();
        LawSentences.all();
        DaySentences.all();
        ClaimSentences.all();
        WorkSentences.all();
        PlanSentences.all();
        if (!Book.close()) {
            System.exit(1);
        }
    }
}
