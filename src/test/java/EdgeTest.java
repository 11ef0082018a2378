import java.io.IOException;
import java.nio.file.Path;

/** Each sentence of the document that names an edge: the last value on one side of it, the first on the other. */
public final class EdgeTest {
    public static void main(String[] args) throws IOException {
        Edges edges = new Edges();
        new TapeEdges(edges).all();
        new LanguageEdges(edges).all();
        new LawEdges(edges).all();
        new HandEdges(edges).all();
        new AheadEdges(edges).all();
        new PlanEdges(edges).all();
        new ValeEdges(edges).all();
        edges.end("EdgeTest", Path.of(args.length > 1 ? args[1] : "../shared/DOC.md"));
    }
}
