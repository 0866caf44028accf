/**
 * Each sentence of the document that names a boundary case, by a test of its own that names the sentence:
 * the least and the greatest value and the first ones beyond, what is empty and what is full, what is
 * refused, and NONE.
 */
public final class BoundaryTest {
    private BoundaryTest() {
    }

    public static void main(String[] args) {
        WallTerms.all();
        TextTerms.all();
        HistoryTerms.all();
        CardPromises.all();
        WallPromises.all();
        TextPromises.all();
        ToldPromises.all();
        Refusals.all();
        Document.tellUnnamed();
        Due.tell("BoundaryTest");
    }
}
