import java.io.IOException;

/** Each sentence of the document that names an edge, with runs that fail if it is broken: see Edges, and Run for their form. */
public final class EdgeTests {
    private EdgeTests() {
    }

    public static void main(String[] args) throws IOException {
        Edges edges = new Edges();
        EdgesOfText.test(edges);
        EdgesOfCalls.test(edges);
        EdgesOfTicks.test(edges);
        EdgesOfAnswers.test(edges);
        EdgesOfLeaving.test(edges);
        if (edges.end() != 0) {
            System.exit(1);
        }
    }
}
