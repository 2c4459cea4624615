import java.io.IOException;
import java.nio.file.Files;
import java.nio.file.Path;

/** Each sentence of the document has a test of its own: what is the last that is taken, the first that is refused, and that a refused call changes nothing. */
public final class EdgesTest {
    public static void main(String[] args) throws IOException {
        Check check = new Check("EdgesTest");
        Path document = args.length > 1 ? Path.of(args[1]) : null;
        boolean isThere = document != null && Files.isReadable(document);
        if (!isThere) {
            System.out.println("EdgesTest: no document is at hand, so that the answers alone are looked at");
        }
        Edges e = new Edges(check, isThere ? Files.readString(document) : "");
        new TermsEdges(e).all();
        new MadeOfCountsEdges(e).all();
        new NetEdges(e).all();
        new CountsEdges(e).all();
        new AloneEdges(e).all();
        new SignsEdges(e).all();
        new PairingsEdges(e).all();
        new RacksEdges(e).all();
        new SheetsEdges(e).all();
        new RowsEdges(e).all();
        e.end();
        check.end();
    }
}
