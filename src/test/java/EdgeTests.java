import java.nio.file.Path;

/** Each sentence of the document, with a test of its own; those that name a boundary are tried on both sides of it. */
public final class EdgeTests {
    private EdgeTests() {}

    public static void main(String[] args) {
        Path root = Path.of(System.getProperty("project.root", "."));
        Sentences sentences = new Sentences(root.resolve("../shared/DOC.md"));
        EdgesOfWhole.all(sentences);
        EdgesOfTerms.all(sentences);
        EdgesOfTexts.all(sentences);
        EdgesOfActs.all(sentences);
        EdgesOfRoutes.all(sentences);
        EdgesOfAnswers.all(sentences);
        EdgesOfWhatIfs.all(sentences);
        if (!sentences.end()) {
            System.exit(1);
        }
    }
}
