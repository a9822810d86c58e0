import java.io.IOException;

/** Each sentence of the document that names a boundary case, in the document's order. */
public final class EdgesTest {
    public static void main(String[] args) throws IOException {
        TermsEdges.all();
        RowsEdges.all();
        PostEdges.all();
        DeedEdges.all();
        OutEdges.all();
        BestEdges.all();
        SightEdges.all();
        DayEdges.all();
        ToldEdges.all();
        Edge.compareWithDocument();
        Check.end();
    }
}
