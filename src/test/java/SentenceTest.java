import java.io.IOException;
import java.nio.file.Path;

/** Every sentence of the document that names an edge, by a test of its own. */
public final class SentenceTest {
    public static void main(String[] args) throws IOException {
        Sentences doc = new Sentences(Path.of("../shared/DOC.md"));
        Edges[] all = {new RefusalEdges(doc), new SeriesEdges(doc), new TextEdges(doc), new PastEdges(doc),
            new LookEdges(doc), new SheetEdges(doc)};
        for (Edges edges : all) {
            edges.all();
        }
        doc.end();
    }
}
