import java.io.IOException;

/** The sentences of the document that name a boundary, each with a test of its own. */
public final class BoundariesTest {
    private BoundariesTest() {
    }

    public static void main(String[] args) throws IOException {
        Sentences all = new Sentences();
        TextBoundaries.hold(all);
        QuarrelBoundaries.hold(all);
        QuestionBoundaries.hold(all);
        OrganBoundaries.hold(all);
        all.dueWhole();
        Asker.finish("BoundariesTest");
    }
}
