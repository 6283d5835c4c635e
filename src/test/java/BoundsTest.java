/** Each sentence of the document that names an edge has a test of its own; a failing line tells the sentence. */
public final class BoundsTest {
    public static void main(String[] args) {
        RoomBounds.run();
        PileBounds.run();
        CourierBounds.run();
        LoanBounds.run();
        OutputBounds.run();
        CommandBounds.run();
        UndoBounds.run();
        Document.dueTested();
        Checks.finish("BoundsTest");
    }
}
