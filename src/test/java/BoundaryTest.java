import java.io.IOException;
import java.nio.file.Path;

/** Each sentence of the document that names a boundary case has a test of its own: see Edge. */
public final class BoundaryTest extends Edge {
  public static void main(String[] args) throws IOException {
    TermEdges.run();
    GriefEdges.run();
    LetterEdges.run();
    LawEdges.run();
    DayEdges.run();
    PlanEdges.run();
    TableEdges.run();
    PromiseEdges.run();
    RefusedEdges.run();
    end(Path.of("../shared/DOC.md"));
  }
}
