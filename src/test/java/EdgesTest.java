/**
 * The document sentence by sentence: each one that names a boundary (too small, too large, empty, full, wrapping, refused)
 * has a test of its own, which quotes it; Sentence sees to it that none is left out.
 */
public final class EdgesTest {
    private EdgesTest() {
    }

    public static void main(String[] args) {
        Refusals.run();
        EdgesOfText.run();
        EdgesOfWood.run();
        EdgesOfActs.run();
        EdgesOfWires.run();
        EdgesOfWays.run();
        EdgesOfChances.run();
        EdgesOfSlots.run();
        Sentence.allQuoted();
        Due.end();
    }
}
