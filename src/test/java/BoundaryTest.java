import java.io.IOException;

/** Each sentence of the document that names a boundary case has a test of its own: promises 1 to 67 and the Terms. */
public final class BoundaryTest {
    public static void main(String[] args) throws IOException {
        EdgeTerms.ask();
        EdgeTape.ask();
        EdgeMen.ask();
        EdgePlan.ask();
        EdgeAnyPlan.ask();
        EdgeLiking.ask();
        EdgeOtherwise.ask();
        EdgeTale.ask();
        EdgeChange.ask();
        EdgeDraw.ask();
        EdgeSlot.ask();
        Edge.matchDocument();
        Check.finish();
    }
}
