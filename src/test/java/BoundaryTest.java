/** Each sentence of the document that names a boundary: on it, and one step to either side where there is one. */
public final class BoundaryTest {
    public static void main(String[] args) {
        EdgesOfText.all();
        EdgesOfTheCommon.all();
        EdgesOfDeeds.all();
        EdgesOfTrials.all();
        EdgesOfNotes.all();
        EdgesOfRefusals.all();
        Due.everyPromiseWasNamed();
        Due.end("BoundaryTest");
    }
}
