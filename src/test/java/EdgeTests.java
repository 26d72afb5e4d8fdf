import java.io.IOException;

/** Each sentence of the document, with its edges, and a test of its own. */
public final class EdgeTests {
    public static void main(String[] args) throws IOException {
        Doc.open();
        FaceEdges.all();
        PictureEdges.all();
        StreamEdges.all();
        ReadingEdges.all();
        RefusalEdges.all();
        MakingEdges.all();
        TakingEdges.all();
        Doc.end();
        Check.end();
    }
}
