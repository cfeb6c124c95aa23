/** Each sentence of the document that names a boundary case, at the bound and beside it. */
public final class BoundsTest extends Bounds {
    public static void main(String[] args) {
        TextBounds.run();
        TermBounds.run();
        QuestionBounds.run();
        PromiseBounds.run();
        allQuoted();
        finish();
    }
}
