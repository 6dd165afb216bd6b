/** Each sentence of the document that names a boundary case has a test of its own, which bears its words. */
public final class BoundsTest {
    /** The beginnings of those that name none. */
    private static final String[] WITHOUT_BOUNDS = {
        "Guides on a glacier: ", "Errors are reported by the constants below.", "Ahead of the calls ",
        "Returns the number;", "Tells whether a row that is made for certificates of just one class ",
    };

    private BoundsTest() {
    }

    public static void main(String[] args) {
        TermsBounds.tests();
        ChangesBounds.tests();
        HistoryBounds.tests();
        ActsBounds.tests();
        TellingBounds.tests();
        Document.dueWhole(WITHOUT_BOUNDS);
        Checks.end();
    }
}
