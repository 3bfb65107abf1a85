import java.io.IOException;

/** A test of its own for each sentence of the document, at the boundaries that the sentence names. */
public final class BoundaryTest {
    public static void main(String[] args) throws IOException {
        Sentences s = new Sentences();
        TermsBoundaries.test(s);
        ClassBoundaries.test(s);
        TeachingBoundaries.test(s);
        ShatteringBoundaries.test(s);
        SampleBoundaries.test(s);
        SlotBoundaries.test(s);
        UnchangedState.test(s);
        s.end();
    }
}
