/** All promises: each sentence of the document that names a boundary has a test of its own, named by its words. */
public final class BoundsTest {
    public static void main(String[] args) {
        RuleBounds.all();
        TextBounds.all();
        NetBounds.all();
        PlanBounds.all();
        DayBounds.all();
        HullBounds.all();
        BlockBounds.all();
        SlipBounds.all();
        ClaimBounds.all();
        Bounds.end();
        Due.end();
    }
}
