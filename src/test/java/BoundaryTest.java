/** Promise by promise, each sentence of the document that names a boundary case. */
public final class BoundaryTest {
    private BoundaryTest() {
    }

    public static void main(String[] args) {
        PeopleBounds.all();
        HourBounds.all();
        TextBounds.all();
        AnswerBounds.all();
        ThoughtBounds.all();
        ReckonBounds.all();
        UndoBounds.all();
        Sentences.finish();
    }
}
