import java.io.IOException;
import java.util.Set;

/** Each sentence of the document that names a boundary case has a test of its own, which says what it holds. */
public final class EdgesTest {
    /** No act tells a quotient. */
    private static final Set<String> LET_GO = Set.of("Quotients are cut");

    private EdgesTest() { }

    public static void main(String[] args) throws IOException {
        held().end();
    }

    /** All of them; src/mutants asks which fail on a class that breaks a sentence. */
    static Checks held() throws IOException {
        Held held = new Held();
        FindingsEdges findings = new FindingsEdges(held);
        ImagesEdges images = new ImagesEdges(held);
        Edges[] all = {findings, new CellsEdges(held), new KindsEdges(held), new KinEdges(held), new YearsEdges(held),
            new AheadEdges(held), new LieEdges(held), new ToldEdges(held), new DrawsEdges(held), new TextEdges(held),
            new SheetsEdges(held), images, new LateEdges(held)};
        for (Edges edges : all) edges.run();
        findings.nothingChanges();
        images.eachFindingIsCounted();
        held.dueWholeDocument(LET_GO);
        return held.checks();
    }
}
