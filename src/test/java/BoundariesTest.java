import java.io.IOException;

/**
 * A test of its own for each sentence of the document that names a boundary case: too small, too large, empty, full,
 * a wrap-around, a refused call. What fails is printed with the promise's number and the sentence.
 */
public final class BoundariesTest {
    private BoundariesTest() {
    }

    public static void main(String[] args) throws IOException {
        EdgesOfTexts.all();
        EdgesOfRuns.all();
        EdgesOfMemory.all();
        EdgesOfPredictions.all();
        EdgesOfAnswers.all();
        EdgesOfGrid.all();
        EdgesOfStacks.all();
        EdgesOfPointers.all();
        Edge.end();
        Sentences.compare();
        Due.end();
    }
}
