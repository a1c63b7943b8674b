import java.io.IOException;

/**
 * The edges that the document names: for each of its sentences a test of its own, which quotes it.
 * Run in the project's folder, beside which the document stands.
 */
public final class EdgeTest {
    private EdgeTest() {
    }

    public static void main(String[] args) throws IOException {
        Sentence.readDocument();
        EdgesOfWhole.check();
        EdgesOfText.check();
        EdgesOfHanging.check();
        EdgesOfPlans.check();
        EdgesOfSwings.check();
        EdgesOfChimes.check();
        EdgesOfRopes.check();
        EdgesOfArguments.check();
        EdgesOfActions.check();
        Sentence.finish();
        Check.finish();
    }
}
