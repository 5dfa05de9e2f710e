/** The boundary cases that the document names, promise by promise; each of the 63 has tests here. */
public final class BoundsTest {
    public static void main(String[] args) {
        TrayBounds.run();
        TapeBounds.run();
        AssemblyBounds.run();
        CountBounds.run();
        DoneBounds.run();
        FutureBounds.run();
        AwayBounds.run();
        CoalitionBounds.run();
        LawBounds.run();
        SessionBounds.run();
        MarkBounds.run();
        Rows.end();
    }
}
