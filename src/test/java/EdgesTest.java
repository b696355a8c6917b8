/** A test of its own for each sentence of the document that names a boundary case; see Edges and Run. */
public final class EdgesTest {
    public static void main(String[] args) throws Exception {
        Edges.begin();
        Edges.runAll(EdgesOfTerms.class);
        Edges.runAll(EdgesOfText.class);
        Edges.runAll(EdgesOfGarden.class);
        Edges.runAll(EdgesOfDays.class);
        Edges.runAll(EdgesOfYears.class);
        Edges.runAll(EdgesOfComing.class);
        Edges.runAll(EdgesOfReadings.class);
        Edges.runAll(EdgesOfSheets.class);
        Edges.runAll(EdgesOfParts.class);
        Edges.namesNoEdge("Terms", "Quotients are cut.");
        Edges.finish();
    }
}
