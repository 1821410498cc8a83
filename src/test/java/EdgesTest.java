import java.io.IOException;
import java.nio.file.Files;
import java.nio.file.Path;

/** Each sentence of the document that names a boundary case has a test of its own, and holds. */
public final class EdgesTest {
    public static void main(String[] args) throws IOException {
        Check check = new Check("EdgesTest");
        Edges edges = new Edges();
        SoundEdges.addTo(edges);
        SettingsEdges.addTo(edges);
        FramesEdges.addTo(edges);
        TrackEdges.addTo(edges);
        NotesEdges.addTo(edges);
        edges.compareWith(Files.readAllLines(Path.of("../shared/DOC.md")), check);
        int count = edges.runAll(check);
        System.out.println("EdgesTest: " + count + " sentences");
        check.close();
    }
}
