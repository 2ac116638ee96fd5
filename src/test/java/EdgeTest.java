import java.nio.file.Path;

/** Every sentence of the document that names a boundary case, by tests that quote it. */
public final class EdgeTest {
    public static void main(String[] args) throws Exception {
        Edge.readDocument(Path.of("../shared/DOC.md"));
        for (boolean worn : new boolean[] {false, true}) {
            Edge.worn = worn;
            EdgesOfUse.all();
            EdgesOfTerms.all();
            EdgesOfPromises.all();
        }
        Edge.needAllQuoted();
        if (!Edge.allDue()) System.exit(1);
    }
}
