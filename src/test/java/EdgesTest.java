import java.io.IOException;
import java.nio.file.Path;

/**
 * Each sentence of the document that names a boundary case, by tests of its own. The second argument is the
 * document's path.
 */
public final class EdgesTest {
    public static void main(String[] args) throws IOException {
        Sentences s = new Sentences(Path.of(args.length > 1 ? args[1] : "../shared/DOC.md"));
        TermsEdges.add(s);
        ParadeEdges.add(s);
        ActsEdges.add(s);
        DaysEdges.add(s);
        WindsEdges.add(s);
        LikingsEdges.add(s);
        ChancesEdges.add(s);
        ImagesEdges.add(s);
        s.end();
    }
}
