/** Each sentence of the document that names a boundary: the last that is allowed, the first that is refused. */
public final class BoundaryTest {
    private BoundaryTest() {
    }

    public static void main(String[] args) {
        TextBounds.all();
        ThoughtBounds.all();
        RuleBounds.all();
        AheadBounds.all();
        LogBounds.all();
        Bounds.end();
    }
}
