import java.nio.file.Path;

/** Each sentence of the document that names a boundary case, with a test of its own. */
public final class EdgesTest {
    private EdgesTest() {
    }

    public static void main(String[] args) throws Exception {
        String document = System.getenv("BEAD_SCHOOL_DOC");
        Edges e = new Edges(Path.of(document == null ? "../shared/DOC.md" : document));
        EdgesOfTerms.all(e);
        EdgesOfSteps.all(e);
        EdgesOfFrames.all(e);
        EdgesOfNumbers.all(e);
        EdgesOfMethods.all(e);
        EdgesOfPupils.all(e);
        EdgesOfExercises.all(e);
        e.end();
    }
}
