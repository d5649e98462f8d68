/** Each sentence of the document that names a boundary: the last value that is right and the first that is not. */
public final class EdgeTest {
    private EdgeTest() {
    }

    public static void main(String[] args) {
        testAll();
        Run.curious = true;
        testAll();
        if (!Edges.hold()) {
            System.exit(1);
        }
    }

    private static void testAll() {
        TextEdges.test();
        PlanEdges.test();
        TimeEdges.test();
        SimulationEdges.test();
        PredictionEdges.test();
        RefusalEdges.test();
    }
}
