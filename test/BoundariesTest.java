/**
 * The document from its first sentence to its last, and the cases that each sentence names: just in and just out of a range,
 * nothing there yet, full, wrapped around, refused, the last moment. The parts stand under bounds; each group of checks there
 * begins with its section or promise and the words that it holds. A clause of the document without a test is a fault.
 */
public final class BoundariesTest {
    private BoundariesTest() {
    }

    public static void main(String[] args) {
        FieldSection.hold();
        TickSection.hold();
        CrossingSection.hold();
        SetupSection.hold();
        EventSection.hold();
        ChangeSection.hold();
        BufferPromises.hold();
        LookPromises.hold();
        ForecastPromises.hold();
        ChangePromises.hold();
        OutputPromises.hold();
        Refusals.hold();
        Sentences.end("BoundariesTest");
    }
}
