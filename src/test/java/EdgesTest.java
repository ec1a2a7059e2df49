import java.io.IOException;
import java.nio.file.Path;

/** Each sentence of the document that names a boundary, held on both of its sides. */
public final class EdgesTest {
    public static void main(String[] args) throws IOException {
        Edges edges = new Edges(new Check(), new Doc(Path.of("../shared/DOC.md")));
        EdgesOfTerms.hold(edges);
        EdgesOfMachines.hold(edges);
        EdgesOfPrograms.hold(edges);
        EdgesOfMoney.hold(edges);
        EdgesOfLoads.hold(edges);
        EdgesOfRuns.hold(edges);
        EdgesOfBooks.hold(edges);
        edges.end();
    }
}
