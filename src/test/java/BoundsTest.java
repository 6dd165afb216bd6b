/** Each sentence of the document has a test that bears its words, and so has each boundary case that it names. */
public final class BoundsTest {
    private BoundsTest() {
    }

    public static void main(String[] args) {
        TermsBounds.tests();
        ChangesBounds.tests();
        HistoryBounds.tests();
        ActsBounds.tests();
        TellingBounds.tests();
        OtherSentences.tests();
        Document.dueWhole();
        Checks.end();
    }
}
