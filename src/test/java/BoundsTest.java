import java.io.IOException;
import java.nio.file.Path;

/** Each sentence of the document has a test of its own at the bounds that it names. */
public final class BoundsTest {
    private BoundsTest() {
    }

    public static void main(String[] args) throws IOException {
        Sentences doc = new Sentences(Path.of("../shared/DOC.md"));
        FaceBounds.all(doc);
        LandBounds.all(doc);
        MapBounds.all(doc);
        VoiceBounds.all(doc);
        NoteBounds.all(doc);
        StoreBounds.all(doc);
        if (!doc.finish()) {
            System.exit(1);
        }
    }
}
