/**
 * A test for each sentence of the document, with the edges that it names. A wrong answer is told with its promise (or
 * with the Terms) and its sentence. The tests themselves stand in the kits named *EdgesKit.
 */
public final class EdgesTest {
    public static void main(String[] args) {
        TextEdgesKit.run();
        MealEdgesKit.run();
        CallEdgesKit.run();
        PlanEdgesKit.run();
        NoteEdgesKit.run();
        ImageEdgesKit.run();
        SentenceKit.end();
        CheckKit.end();
    }
}
