/**
 * Sentence by sentence of the document what names a bound: too small, too large, empty, full, round, refused. In the end
 * no word of the document that names a bound may be left that no test here has said.
 */
final class BoundsTest {
    private BoundsTest() {
    }

    public static void main(String[] args) {
        TapeBounds.test();
        HouseBounds.test();
        RuleBounds.test();
        FaultBounds.test();
        YearBounds.test();
        AskedBounds.test();
        CallBounds.test();
        Doc.allSaid();
        Due.end("BoundsTest");
    }
}
