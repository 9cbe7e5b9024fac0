import java.io.IOException;
import java.nio.file.Path;

/** Every edge that the document names, each with a test of its own. Run from the project's own folder. */
public final class EdgesTest {
    public static void main(String[] args) throws IOException {
        Checks checks = new Checks();
        Edges edges = new Edges(checks, Path.of("../shared/DOC.md"));
        RefusalEdges.addTo(edges);
        SheetEdges.addTo(edges);
        RoomEdges.addTo(edges);
        TextEdges.addTo(edges);
        FlightEdges.addTo(edges);
        LoadEdges.addTo(edges);
        PlanEdges.addTo(edges);
        AskEdges.addTo(edges);
        edges.nothingIsLeftOut();
        checks.finish();
    }
}
