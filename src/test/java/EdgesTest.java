import java.io.IOException;
import java.nio.file.Path;

/** Every sentence of the document that tells an edge, with a test of its own. */
final class EdgesTest {
  public static void main(String[] args) throws IOException {
    Due due = new Due("EdgesTest");
    Sentences sentences = new Sentences(due, Path.of("../shared/DOC.md"));
    RowEdges.all(sentences);
    TextEdges.all(sentences);
    ShipEdges.all(sentences);
    HerselfEdges.all(sentences);
    WaterEdges.all(sentences);
    CourtEdges.all(sentences);
    AskEdges.all(sentences);
    sentences.end();
    due.end();
  }
}
