/** Each sentence of the document that names an edge, with a test of its own; no sentence is left without one. */
public final class EdgeTest {
    public static void main(String[] args) {
        EdgesTold.all();
        EdgesRule.all();
        EdgesDrop.all();
        EdgesPane.all();
        EdgesPlan.all();
        EdgesPeople.all();
        EdgesKey.all();
        EdgesHours.all();
        EdgesRow.all();
        Edge.end();
    }
}
