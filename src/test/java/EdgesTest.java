import java.io.IOException;
import java.nio.file.Path;

/** Each sentence of the document's terms and promises, above all the boundary cases that it names. */
public final class EdgesTest {
    public static void main(String[] args) throws IOException {
        TermEdges.test();
        TextEdges.test();
        SceneEdges.test();
        StateEdges.test();
        SheetEdges.test();
        HandEdges.test();
        Edges.compareWithDocument(Path.of("../shared/DOC.md"));
        Check.end("edges");
    }
}
